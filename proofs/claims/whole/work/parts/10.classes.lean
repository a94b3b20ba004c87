theorem mm_cl_0 : ∀ k, k < 2 → u_lay RX0 TX0 k ∈ mm_TT
  | 0, _ => mm_in (i := 97) (by decide +kernel) rfl
  | 1, _ => mm_in (i := 99) (by decide +kernel) rfl
  | k + 2, h => absurd h (by omega)
theorem mm_cd_0 : ∀ k, k < 2 → (TX0 k).1 = mm_on (mm_co 0)
  | 0, _ => rfl
  | 1, _ => rfl
  | k + 2, h => absurd h (by omega)
theorem mm_cl_1 : ∀ k, k < 11 → u_lay RX1 TX1 k ∈ mm_TT
  | 0, _ => mm_in (i := 62) (by decide +kernel) rfl
  | 1, _ => mm_in (i := 64) (by decide +kernel) rfl
  | 2, _ => mm_in (i := 66) (by decide +kernel) rfl
  | 3, _ => mm_in (i := 68) (by decide +kernel) rfl
  | 4, _ => mm_in (i := 70) (by decide +kernel) rfl
  | 5, _ => mm_in (i := 72) (by decide +kernel) rfl
  | 6, _ => mm_in (i := 74) (by decide +kernel) rfl
  | 7, _ => mm_in (i := 76) (by decide +kernel) rfl
  | 8, _ => mm_in (i := 78) (by decide +kernel) rfl
  | 9, _ => mm_in (i := 80) (by decide +kernel) rfl
  | 10, _ => mm_in (i := 82) (by decide +kernel) rfl
  | k + 11, h => absurd h (by omega)
theorem mm_cd_1 : ∀ k, k < 11 → (TX1 k).1 = mm_on (mm_co 1)
  | 0, _ => rfl
  | 1, _ => rfl
  | 2, _ => rfl
  | 3, _ => rfl
  | 4, _ => rfl
  | 5, _ => rfl
  | 6, _ => rfl
  | 7, _ => rfl
  | 8, _ => rfl
  | 9, _ => rfl
  | 10, _ => rfl
  | k + 11, h => absurd h (by omega)
theorem mm_cl_2 : ∀ k, k < 2 → u_lay RX2 TX2 k ∈ mm_TT
  | 0, _ => mm_in (i := 134) (by decide +kernel) rfl
  | 1, _ => mm_in (i := 136) (by decide +kernel) rfl
  | k + 2, h => absurd h (by omega)
theorem mm_cd_2 : ∀ k, k < 2 → (TX2 k).1 = mm_on (mm_co 2)
  | 0, _ => rfl
  | 1, _ => rfl
  | k + 2, h => absurd h (by omega)
theorem mm_cl_3 : ∀ k, k < 4 → u_lay RX3 TX3 k ∈ mm_TT
  | 0, _ => mm_in (i := 116) (by decide +kernel) rfl
  | 1, _ => mm_in (i := 118) (by decide +kernel) rfl
  | 2, _ => mm_in (i := 120) (by decide +kernel) rfl
  | 3, _ => mm_in (i := 122) (by decide +kernel) rfl
  | k + 4, h => absurd h (by omega)
theorem mm_cd_3 : ∀ k, k < 4 → (TX3 k).1 = mm_on (mm_co 3)
  | 0, _ => rfl
  | 1, _ => rfl
  | 2, _ => rfl
  | 3, _ => rfl
  | k + 4, h => absurd h (by omega)
theorem mm_cl_4 : ∀ k, k < 19 → u_lay RX5 TX5 k ∈ mm_TT
  | 0, _ => mm_in (i := 218) (by decide +kernel) rfl
  | 1, _ => mm_in (i := 220) (by decide +kernel) rfl
  | 2, _ => mm_in (i := 222) (by decide +kernel) rfl
  | 3, _ => mm_in (i := 224) (by decide +kernel) rfl
  | 4, _ => mm_in (i := 226) (by decide +kernel) rfl
  | 5, _ => mm_in (i := 228) (by decide +kernel) rfl
  | 6, _ => mm_in (i := 230) (by decide +kernel) rfl
  | 7, _ => mm_in (i := 232) (by decide +kernel) rfl
  | 8, _ => mm_in (i := 234) (by decide +kernel) rfl
  | 9, _ => mm_in (i := 236) (by decide +kernel) rfl
  | 10, _ => mm_in (i := 238) (by decide +kernel) rfl
  | 11, _ => mm_in (i := 240) (by decide +kernel) rfl
  | 12, _ => mm_in (i := 242) (by decide +kernel) rfl
  | 13, _ => mm_in (i := 244) (by decide +kernel) rfl
  | 14, _ => mm_in (i := 246) (by decide +kernel) rfl
  | 15, _ => mm_in (i := 248) (by decide +kernel) rfl
  | 16, _ => mm_in (i := 250) (by decide +kernel) rfl
  | 17, _ => mm_in (i := 252) (by decide +kernel) rfl
  | 18, _ => mm_in (i := 254) (by decide +kernel) rfl
  | k + 19, h => absurd h (by omega)
theorem mm_cd_4 : ∀ k, k < 19 → (TX5 k).1 = mm_on (mm_co 4)
  | 0, _ => rfl
  | 1, _ => rfl
  | 2, _ => rfl
  | 3, _ => rfl
  | 4, _ => rfl
  | 5, _ => rfl
  | 6, _ => rfl
  | 7, _ => rfl
  | 8, _ => rfl
  | 9, _ => rfl
  | 10, _ => rfl
  | 11, _ => rfl
  | 12, _ => rfl
  | 13, _ => rfl
  | 14, _ => rfl
  | 15, _ => rfl
  | 16, _ => rfl
  | 17, _ => rfl
  | 18, _ => rfl
  | k + 19, h => absurd h (by omega)
theorem mm_cl_5 : ∀ k, k < 6 → u_lay RX7 TX7 k ∈ mm_TT
  | 0, _ => mm_in (i := 367) (by decide +kernel) rfl
  | 1, _ => mm_in (i := 369) (by decide +kernel) rfl
  | 2, _ => mm_in (i := 371) (by decide +kernel) rfl
  | 3, _ => mm_in (i := 373) (by decide +kernel) rfl
  | 4, _ => mm_in (i := 375) (by decide +kernel) rfl
  | 5, _ => mm_in (i := 377) (by decide +kernel) rfl
  | k + 6, h => absurd h (by omega)
theorem mm_cd_5 : ∀ k, k < 6 → (TX7 k).1 = mm_on (mm_co 5)
  | 0, _ => rfl
  | 1, _ => rfl
  | 2, _ => rfl
  | 3, _ => rfl
  | 4, _ => rfl
  | 5, _ => rfl
  | k + 6, h => absurd h (by omega)
theorem mm_cl_6 : ∀ k, k < 6 → u_lay RX8 TX8 k ∈ mm_TT
  | 0, _ => mm_in (i := 152) (by decide +kernel) rfl
  | 1, _ => mm_in (i := 154) (by decide +kernel) rfl
  | 2, _ => mm_in (i := 156) (by decide +kernel) rfl
  | 3, _ => mm_in (i := 158) (by decide +kernel) rfl
  | 4, _ => mm_in (i := 160) (by decide +kernel) rfl
  | 5, _ => mm_in (i := 162) (by decide +kernel) rfl
  | k + 6, h => absurd h (by omega)
theorem mm_cd_6 : ∀ k, k < 6 → (TX8 k).1 = mm_on (mm_co 6)
  | 0, _ => rfl
  | 1, _ => rfl
  | 2, _ => rfl
  | 3, _ => rfl
  | 4, _ => rfl
  | 5, _ => rfl
  | k + 6, h => absurd h (by omega)
theorem mm_cl_7 : ∀ k, k < 9 → u_lay RX9 TX9 k ∈ mm_TT
  | 0, _ => mm_in (i := 338) (by decide +kernel) rfl
  | 1, _ => mm_in (i := 340) (by decide +kernel) rfl
  | 2, _ => mm_in (i := 342) (by decide +kernel) rfl
  | 3, _ => mm_in (i := 344) (by decide +kernel) rfl
  | 4, _ => mm_in (i := 346) (by decide +kernel) rfl
  | 5, _ => mm_in (i := 348) (by decide +kernel) rfl
  | 6, _ => mm_in (i := 350) (by decide +kernel) rfl
  | 7, _ => mm_in (i := 352) (by decide +kernel) rfl
  | 8, _ => mm_in (i := 354) (by decide +kernel) rfl
  | k + 9, h => absurd h (by omega)
theorem mm_cd_7 : ∀ k, k < 9 → (TX9 k).1 = mm_on (mm_co 7)
  | 0, _ => rfl
  | 1, _ => rfl
  | 2, _ => rfl
  | 3, _ => rfl
  | 4, _ => rfl
  | 5, _ => rfl
  | 6, _ => rfl
  | 7, _ => rfl
  | 8, _ => rfl
  | k + 9, h => absurd h (by omega)
theorem mm_cl_8 : ∀ k, k < 10 → u_lay RX10 TX10 k ∈ mm_TT
  | 0, _ => mm_in (i := 418) (by decide +kernel) rfl
  | 1, _ => mm_in (i := 402) (by decide +kernel) rfl
  | 2, _ => mm_in (i := 404) (by decide +kernel) rfl
  | 3, _ => mm_in (i := 406) (by decide +kernel) rfl
  | 4, _ => mm_in (i := 408) (by decide +kernel) rfl
  | 5, _ => mm_in (i := 410) (by decide +kernel) rfl
  | 6, _ => mm_in (i := 412) (by decide +kernel) rfl
  | 7, _ => mm_in (i := 414) (by decide +kernel) rfl
  | 8, _ => mm_in (i := 416) (by decide +kernel) rfl
  | 9, _ => mm_in (i := 420) (by decide +kernel) rfl
  | k + 10, h => absurd h (by omega)
theorem mm_cd_8 : ∀ k, k < 10 → (TX10 k).1 = mm_on (mm_co 8)
  | 0, _ => rfl
  | 1, _ => rfl
  | 2, _ => rfl
  | 3, _ => rfl
  | 4, _ => rfl
  | 5, _ => rfl
  | 6, _ => rfl
  | 7, _ => rfl
  | 8, _ => rfl
  | 9, _ => rfl
  | k + 10, h => absurd h (by omega)
theorem mm_cl_9 : ∀ k, k < 99 → u_lay RX11 TX11 k ∈ mm_TT
  | 0, _ => mm_in (i := 1190) (by decide +kernel) rfl
  | 1, _ => mm_in (i := 1192) (by decide +kernel) rfl
  | 2, _ => mm_in (i := 1194) (by decide +kernel) rfl
  | 3, _ => mm_in (i := 1196) (by decide +kernel) rfl
  | 4, _ => mm_in (i := 1198) (by decide +kernel) rfl
  | 5, _ => mm_in (i := 1200) (by decide +kernel) rfl
  | 6, _ => mm_in (i := 1202) (by decide +kernel) rfl
  | 7, _ => mm_in (i := 1204) (by decide +kernel) rfl
  | 8, _ => mm_in (i := 1206) (by decide +kernel) rfl
  | 9, _ => mm_in (i := 1208) (by decide +kernel) rfl
  | 10, _ => mm_in (i := 1210) (by decide +kernel) rfl
  | 11, _ => mm_in (i := 1212) (by decide +kernel) rfl
  | 12, _ => mm_in (i := 1214) (by decide +kernel) rfl
  | 13, _ => mm_in (i := 1216) (by decide +kernel) rfl
  | 14, _ => mm_in (i := 1218) (by decide +kernel) rfl
  | 15, _ => mm_in (i := 1220) (by decide +kernel) rfl
  | 16, _ => mm_in (i := 1222) (by decide +kernel) rfl
  | 17, _ => mm_in (i := 1224) (by decide +kernel) rfl
  | 18, _ => mm_in (i := 1226) (by decide +kernel) rfl
  | 19, _ => mm_in (i := 1228) (by decide +kernel) rfl
  | 20, _ => mm_in (i := 1230) (by decide +kernel) rfl
  | 21, _ => mm_in (i := 1232) (by decide +kernel) rfl
  | 22, _ => mm_in (i := 1234) (by decide +kernel) rfl
  | 23, _ => mm_in (i := 1236) (by decide +kernel) rfl
  | 24, _ => mm_in (i := 1238) (by decide +kernel) rfl
  | 25, _ => mm_in (i := 1240) (by decide +kernel) rfl
  | 26, _ => mm_in (i := 1242) (by decide +kernel) rfl
  | 27, _ => mm_in (i := 1244) (by decide +kernel) rfl
  | 28, _ => mm_in (i := 1246) (by decide +kernel) rfl
  | 29, _ => mm_in (i := 1248) (by decide +kernel) rfl
  | 30, _ => mm_in (i := 1250) (by decide +kernel) rfl
  | 31, _ => mm_in (i := 1252) (by decide +kernel) rfl
  | 32, _ => mm_in (i := 1254) (by decide +kernel) rfl
  | 33, _ => mm_in (i := 1256) (by decide +kernel) rfl
  | 34, _ => mm_in (i := 1258) (by decide +kernel) rfl
  | 35, _ => mm_in (i := 1260) (by decide +kernel) rfl
  | 36, _ => mm_in (i := 1262) (by decide +kernel) rfl
  | 37, _ => mm_in (i := 1264) (by decide +kernel) rfl
  | 38, _ => mm_in (i := 1266) (by decide +kernel) rfl
  | 39, _ => mm_in (i := 1268) (by decide +kernel) rfl
  | 40, _ => mm_in (i := 1270) (by decide +kernel) rfl
  | 41, _ => mm_in (i := 1272) (by decide +kernel) rfl
  | 42, _ => mm_in (i := 1274) (by decide +kernel) rfl
  | 43, _ => mm_in (i := 1276) (by decide +kernel) rfl
  | 44, _ => mm_in (i := 1278) (by decide +kernel) rfl
  | 45, _ => mm_in (i := 1280) (by decide +kernel) rfl
  | 46, _ => mm_in (i := 1282) (by decide +kernel) rfl
  | 47, _ => mm_in (i := 1284) (by decide +kernel) rfl
  | 48, _ => mm_in (i := 1286) (by decide +kernel) rfl
  | 49, _ => mm_in (i := 1288) (by decide +kernel) rfl
  | 50, _ => mm_in (i := 1290) (by decide +kernel) rfl
  | 51, _ => mm_in (i := 1292) (by decide +kernel) rfl
  | 52, _ => mm_in (i := 1294) (by decide +kernel) rfl
  | 53, _ => mm_in (i := 1296) (by decide +kernel) rfl
  | 54, _ => mm_in (i := 1298) (by decide +kernel) rfl
  | 55, _ => mm_in (i := 1300) (by decide +kernel) rfl
  | 56, _ => mm_in (i := 1302) (by decide +kernel) rfl
  | 57, _ => mm_in (i := 1304) (by decide +kernel) rfl
  | 58, _ => mm_in (i := 1306) (by decide +kernel) rfl
  | 59, _ => mm_in (i := 1308) (by decide +kernel) rfl
  | 60, _ => mm_in (i := 1310) (by decide +kernel) rfl
  | 61, _ => mm_in (i := 1312) (by decide +kernel) rfl
  | 62, _ => mm_in (i := 1314) (by decide +kernel) rfl
  | 63, _ => mm_in (i := 1316) (by decide +kernel) rfl
  | 64, _ => mm_in (i := 1318) (by decide +kernel) rfl
  | 65, _ => mm_in (i := 1320) (by decide +kernel) rfl
  | 66, _ => mm_in (i := 1322) (by decide +kernel) rfl
  | 67, _ => mm_in (i := 1324) (by decide +kernel) rfl
  | 68, _ => mm_in (i := 1326) (by decide +kernel) rfl
  | 69, _ => mm_in (i := 1328) (by decide +kernel) rfl
  | 70, _ => mm_in (i := 1330) (by decide +kernel) rfl
  | 71, _ => mm_in (i := 1332) (by decide +kernel) rfl
  | 72, _ => mm_in (i := 1334) (by decide +kernel) rfl
  | 73, _ => mm_in (i := 1336) (by decide +kernel) rfl
  | 74, _ => mm_in (i := 1338) (by decide +kernel) rfl
  | 75, _ => mm_in (i := 1340) (by decide +kernel) rfl
  | 76, _ => mm_in (i := 1342) (by decide +kernel) rfl
  | 77, _ => mm_in (i := 1344) (by decide +kernel) rfl
  | 78, _ => mm_in (i := 1346) (by decide +kernel) rfl
  | 79, _ => mm_in (i := 1348) (by decide +kernel) rfl
  | 80, _ => mm_in (i := 1350) (by decide +kernel) rfl
  | 81, _ => mm_in (i := 1352) (by decide +kernel) rfl
  | 82, _ => mm_in (i := 1354) (by decide +kernel) rfl
  | 83, _ => mm_in (i := 1356) (by decide +kernel) rfl
  | 84, _ => mm_in (i := 1358) (by decide +kernel) rfl
  | 85, _ => mm_in (i := 1360) (by decide +kernel) rfl
  | 86, _ => mm_in (i := 1362) (by decide +kernel) rfl
  | 87, _ => mm_in (i := 1364) (by decide +kernel) rfl
  | 88, _ => mm_in (i := 1366) (by decide +kernel) rfl
  | 89, _ => mm_in (i := 1368) (by decide +kernel) rfl
  | 90, _ => mm_in (i := 1370) (by decide +kernel) rfl
  | 91, _ => mm_in (i := 1372) (by decide +kernel) rfl
  | 92, _ => mm_in (i := 1374) (by decide +kernel) rfl
  | 93, _ => mm_in (i := 1376) (by decide +kernel) rfl
  | 94, _ => mm_in (i := 1378) (by decide +kernel) rfl
  | 95, _ => mm_in (i := 1380) (by decide +kernel) rfl
  | 96, _ => mm_in (i := 1382) (by decide +kernel) rfl
  | 97, _ => mm_in (i := 1384) (by decide +kernel) rfl
  | 98, _ => mm_in (i := 1386) (by decide +kernel) rfl
  | k + 99, h => absurd h (by omega)
theorem mm_cd_9 : ∀ k, k < 99 → (TX11 k).1 = mm_on (mm_co 9)
  | 0, _ => rfl
  | 1, _ => rfl
  | 2, _ => rfl
  | 3, _ => rfl
  | 4, _ => rfl
  | 5, _ => rfl
  | 6, _ => rfl
  | 7, _ => rfl
  | 8, _ => rfl
  | 9, _ => rfl
  | 10, _ => rfl
  | 11, _ => rfl
  | 12, _ => rfl
  | 13, _ => rfl
  | 14, _ => rfl
  | 15, _ => rfl
  | 16, _ => rfl
  | 17, _ => rfl
  | 18, _ => rfl
  | 19, _ => rfl
  | 20, _ => rfl
  | 21, _ => rfl
  | 22, _ => rfl
  | 23, _ => rfl
  | 24, _ => rfl
  | 25, _ => rfl
  | 26, _ => rfl
  | 27, _ => rfl
  | 28, _ => rfl
  | 29, _ => rfl
  | 30, _ => rfl
  | 31, _ => rfl
  | 32, _ => rfl
  | 33, _ => rfl
  | 34, _ => rfl
  | 35, _ => rfl
  | 36, _ => rfl
  | 37, _ => rfl
  | 38, _ => rfl
  | 39, _ => rfl
  | 40, _ => rfl
  | 41, _ => rfl
  | 42, _ => rfl
  | 43, _ => rfl
  | 44, _ => rfl
  | 45, _ => rfl
  | 46, _ => rfl
  | 47, _ => rfl
  | 48, _ => rfl
  | 49, _ => rfl
  | 50, _ => rfl
  | 51, _ => rfl
  | 52, _ => rfl
  | 53, _ => rfl
  | 54, _ => rfl
  | 55, _ => rfl
  | 56, _ => rfl
  | 57, _ => rfl
  | 58, _ => rfl
  | 59, _ => rfl
  | 60, _ => rfl
  | 61, _ => rfl
  | 62, _ => rfl
  | 63, _ => rfl
  | 64, _ => rfl
  | 65, _ => rfl
  | 66, _ => rfl
  | 67, _ => rfl
  | 68, _ => rfl
  | 69, _ => rfl
  | 70, _ => rfl
  | 71, _ => rfl
  | 72, _ => rfl
  | 73, _ => rfl
  | 74, _ => rfl
  | 75, _ => rfl
  | 76, _ => rfl
  | 77, _ => rfl
  | 78, _ => rfl
  | 79, _ => rfl
  | 80, _ => rfl
  | 81, _ => rfl
  | 82, _ => rfl
  | 83, _ => rfl
  | 84, _ => rfl
  | 85, _ => rfl
  | 86, _ => rfl
  | 87, _ => rfl
  | 88, _ => rfl
  | 89, _ => rfl
  | 90, _ => rfl
  | 91, _ => rfl
  | 92, _ => rfl
  | 93, _ => rfl
  | 94, _ => rfl
  | 95, _ => rfl
  | 96, _ => rfl
  | 97, _ => rfl
  | 98, _ => rfl
  | k + 99, h => absurd h (by omega)
