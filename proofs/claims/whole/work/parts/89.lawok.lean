theorem lo_in {i SL : Nat} (hi6 : i + 6 ≤ SL) (k : Nat) (hk : k < 6) (hSL : SL ≤ 3072) : vp_in (nI i + Int32.ofInt (k : Int)) SL := by
  have e : Int32.ofInt (k : Int) = nI k := by
    unfold nI
    rfl
  rw [e, nI_add]
  exact vp_in_nI (by omega) (by omega)
theorem lo_in0 {i SL : Nat} (hi6 : i + 6 ≤ SL) (hSL : SL ≤ 3072) : vp_in (nI i) SL := vp_in_nI (by omega) (by omega)
theorem lo_gt {i SL : Nat} (hSL : SL ≤ 3072) (hi : i ≤ 4000) (h : SL < i + 6) : Int32.ofNat SL - (Int8.ofInt 6).toInt32 < nI i := by
  have e : (Int8.ofInt 6).toInt32 = nI 6 := by decide
  rw [e, Int32.lt_iff_toInt_lt]
  show (nI SL - nI 6).toInt < _
  rw [pk_sub_toInt (by omega) (by omega), nI_toInt (by omega)]
  omega
theorem lo_le {i SL : Nat} (hSL : SL ≤ 3072) (hi : i ≤ 4000) (h : ¬ Int32.ofNat SL - (Int8.ofInt 6).toInt32 < nI i) : i + 6 ≤ SL := by
  rcases Nat.lt_or_ge SL (i + 6) with q | q
  · exact absurd (lo_gt hSL hi q) h
  · exact q
set_option maxRecDepth 100000 in
theorem lo_feed {SL : Nat} {xs : Nat → Int32} {d i c s : Nat} {h : mm_H} (hSL : SL ≤ 3072) (hdd : 150 ≤ d) (hi6 : i + 6 ≤ SL) (hc : c ≤ 105) (hs : s ≤ 12952) (hiv : iv h) (k : ∀ h2, iv h2 → mm_w SL xs (mm_s SL xs d) mm_am kL_law 105 12952 (some .boolean) (fun r _ => r = some (.int 1)) 1549 [some (.ref 0), some (.ref 2), some (.ref 65), some (.int (nI i))] [] h2 c s) : mm_w SL xs (mm_s SL xs d) mm_am kL_law 105 12952 (some .boolean) (fun r _ => r = some (.int 1)) 204 [some (.ref 0), some (.ref 2), some (.ref 65), some (.int (nI i))] [] h c s := by
  refine sp_aload_n 205 rfl rfl rfl ?_
  refine sp_aload_n 206 rfl rfl rfl ?_
  refine sp_iload_n 207 rfl rfl rfl ?_
  refine sp_iconst 208 rfl rfl ?_
  refine sp_iadd 209 rfl rfl ?_
  refine sp_sald 210 rfl (lo_in hi6 1 (by decide) hSL) rfl ?_
  refine sp_aload_n 211 rfl rfl rfl ?_
  refine sp_iload_n 212 rfl rfl rfl ?_
  refine sp_iconst 213 rfl rfl ?_
  refine sp_iadd 214 rfl rfl ?_
  refine sp_sald 215 rfl (lo_in hi6 2 (by decide) hSL) rfl ?_
  refine sp_aload_n 216 rfl rfl rfl ?_
  refine sp_iload_n 217 rfl rfl rfl ?_
  refine sp_iconst 218 rfl rfl ?_
  refine sp_iadd 219 rfl rfl ?_
  refine sp_sald 220 rfl (lo_in hi6 3 (by decide) hSL) rfl ?_
  refine sp_aload_n 221 rfl rfl rfl ?_
  refine sp_iload_n 222 rfl rfl rfl ?_
  refine sp_iconst 223 rfl rfl ?_
  refine sp_iadd 224 rfl rfl ?_
  refine sp_sald 225 rfl (lo_in hi6 4 (by decide) hSL) rfl ?_
  refine sp_aload_n 226 rfl rfl rfl ?_
  refine sp_iload_n 227 rfl rfl rfl ?_
  refine sp_iconst 228 rfl rfl ?_
  refine sp_iadd 229 rfl rfl ?_
  refine sp_sald 230 rfl (lo_in hi6 5 (by decide) hSL) rfl ?_
  refine sc_V 233 rfl rfl hiv.1 rfl rfl hc hs rfl ?_
  refine ca_feed hdd hiv (fun r9 h1 hk9 hm => ?_)
  refine sp_aload_n 234 rfl rfl rfl ?_
  refine sp_aload_n 235 rfl rfl rfl ?_
  refine sp_iload_n 236 rfl rfl rfl ?_
  refine sp_iconst 237 rfl rfl ?_
  refine sp_iadd 238 rfl rfl ?_
  refine sp_sald 239 rfl (lo_in hi6 1 (by decide) hSL) rfl ?_
  refine sp_aload_n 240 rfl rfl rfl ?_
  refine sp_iload_n 241 rfl rfl rfl ?_
  refine sp_iconst 242 rfl rfl ?_
  refine sp_iadd 243 rfl rfl ?_
  refine sp_sald 244 rfl (lo_in hi6 2 (by decide) hSL) rfl ?_
  refine sp_aload_n 245 rfl rfl rfl ?_
  refine sp_iload_n 246 rfl rfl rfl ?_
  refine sp_iconst 247 rfl rfl ?_
  refine sp_iadd 248 rfl rfl ?_
  refine sp_sald 249 rfl (lo_in hi6 3 (by decide) hSL) rfl ?_
  refine sp_aload_n 250 rfl rfl rfl ?_
  refine sp_iload_n 251 rfl rfl rfl ?_
  refine sp_iconst 252 rfl rfl ?_
  refine sp_iadd 253 rfl rfl ?_
  refine sp_sald 254 rfl (lo_in hi6 4 (by decide) hSL) rfl ?_
  refine sp_aload_n 255 rfl rfl rfl ?_
  refine sp_iload_n 256 rfl rfl rfl ?_
  refine sp_iconst 257 rfl rfl ?_
  refine sp_iadd 258 rfl rfl ?_
  refine sp_sald 259 rfl (lo_in hi6 5 (by decide) hSL) rfl ?_
  refine sc_V 262 rfl rfl hk9 rfl rfl hc hs rfl ?_
  refine hm _ (fun h2 hiv2 => ?_)
  exact sp_ic_eq 265 rfl rfl (fun _ => k h2 hiv2) (fun q => absurd rfl q)
set_option maxRecDepth 100000 in
theorem lo_end {SL : Nat} {xs : Nat → Int32} {d i c s : Nat} {h : mm_H} (hSL : SL ≤ 3072) (hdd : 150 ≤ d) (hi6 : i + 6 ≤ SL) (hc : c ≤ 105) (hs : s ≤ 12952) (hiv : iv h) (k : ∀ h2, iv h2 → mm_w SL xs (mm_s SL xs d) mm_am kL_law 105 12952 (some .boolean) (fun r _ => r = some (.int 1)) 1549 [some (.ref 0), some (.ref 2), some (.ref 65), some (.int (nI i))] [] h2 c s) : mm_w SL xs (mm_s SL xs d) mm_am kL_law 105 12952 (some .boolean) (fun r _ => r = some (.int 1)) 267 [some (.ref 0), some (.ref 2), some (.ref 65), some (.int (nI i))] [] h c s := by
  refine sp_aload_n 268 rfl rfl rfl ?_
  refine sp_aload_n 269 rfl rfl rfl ?_
  refine sp_iload_n 270 rfl rfl rfl ?_
  refine sp_iconst 271 rfl rfl ?_
  refine sp_iadd 272 rfl rfl ?_
  refine sp_sald 273 rfl (lo_in hi6 1 (by decide) hSL) rfl ?_
  refine sc_V 276 rfl rfl hiv.1 rfl rfl hc hs rfl ?_
  refine ca_end hdd hiv (fun r9 h1 hk9 hm => ?_)
  refine sp_aload_n 277 rfl rfl rfl ?_
  refine sp_aload_n 278 rfl rfl rfl ?_
  refine sp_iload_n 279 rfl rfl rfl ?_
  refine sp_iconst 280 rfl rfl ?_
  refine sp_iadd 281 rfl rfl ?_
  refine sp_sald 282 rfl (lo_in hi6 1 (by decide) hSL) rfl ?_
  refine sc_V 285 rfl rfl hk9 rfl rfl hc hs rfl ?_
  refine hm _ (fun h2 hiv2 => ?_)
  exact sp_ic_eq 288 rfl rfl (fun _ => k h2 hiv2) (fun q => absurd rfl q)
set_option maxRecDepth 100000 in
theorem lo_ring {SL : Nat} {xs : Nat → Int32} {d i c s : Nat} {h : mm_H} (hSL : SL ≤ 3072) (hdd : 150 ≤ d) (hi6 : i + 6 ≤ SL) (hc : c ≤ 105) (hs : s ≤ 12952) (hiv : iv h) (k : ∀ h2, iv h2 → mm_w SL xs (mm_s SL xs d) mm_am kL_law 105 12952 (some .boolean) (fun r _ => r = some (.int 1)) 1549 [some (.ref 0), some (.ref 2), some (.ref 65), some (.int (nI i))] [] h2 c s) : mm_w SL xs (mm_s SL xs d) mm_am kL_law 105 12952 (some .boolean) (fun r _ => r = some (.int 1)) 290 [some (.ref 0), some (.ref 2), some (.ref 65), some (.int (nI i))] [] h c s := by
  refine sp_aload_n 291 rfl rfl rfl ?_
  refine sc_V 294 rfl rfl hiv.1 rfl rfl hc hs rfl ?_
  refine ca_ring hdd hiv (fun r9 h1 hk9 hm => ?_)
  refine sp_aload_n 295 rfl rfl rfl ?_
  refine sc_V 298 rfl rfl hk9 rfl rfl hc hs rfl ?_
  refine hm _ (fun h2 hiv2 => ?_)
  exact sp_ic_eq 301 rfl rfl (fun _ => k h2 hiv2) (fun q => absurd rfl q)
set_option maxRecDepth 100000 in
theorem lo_fault {SL : Nat} {xs : Nat → Int32} {d i c s : Nat} {h : mm_H} (hSL : SL ≤ 3072) (hdd : 150 ≤ d) (hi6 : i + 6 ≤ SL) (hc : c ≤ 105) (hs : s ≤ 12952) (hiv : iv h) (k : ∀ h2, iv h2 → mm_w SL xs (mm_s SL xs d) mm_am kL_law 105 12952 (some .boolean) (fun r _ => r = some (.int 1)) 1549 [some (.ref 0), some (.ref 2), some (.ref 65), some (.int (nI i))] [] h2 c s) : mm_w SL xs (mm_s SL xs d) mm_am kL_law 105 12952 (some .boolean) (fun r _ => r = some (.int 1)) 303 [some (.ref 0), some (.ref 2), some (.ref 65), some (.int (nI i))] [] h c s := by
  refine sp_aload_n 304 rfl rfl rfl ?_
  refine sp_aload_n 305 rfl rfl rfl ?_
  refine sp_iload_n 306 rfl rfl rfl ?_
  refine sp_iconst 307 rfl rfl ?_
  refine sp_iadd 308 rfl rfl ?_
  refine sp_sald 309 rfl (lo_in hi6 1 (by decide) hSL) rfl ?_
  refine sc_V 312 rfl rfl hiv.1 rfl rfl hc hs rfl ?_
  refine ca_fault hdd hiv (fun r9 h1 hk9 hm => ?_)
  refine sp_aload_n 313 rfl rfl rfl ?_
  refine sp_aload_n 314 rfl rfl rfl ?_
  refine sp_iload_n 315 rfl rfl rfl ?_
  refine sp_iconst 316 rfl rfl ?_
  refine sp_iadd 317 rfl rfl ?_
  refine sp_sald 318 rfl (lo_in hi6 1 (by decide) hSL) rfl ?_
  refine sc_V 321 rfl rfl hk9 rfl rfl hc hs rfl ?_
  refine hm _ (fun h2 hiv2 => ?_)
  exact sp_ic_eq 324 rfl rfl (fun _ => k h2 hiv2) (fun q => absurd rfl q)
set_option maxRecDepth 100000 in
theorem lo_go {SL : Nat} {xs : Nat → Int32} {d i c s : Nat} {h : mm_H} (hSL : SL ≤ 3072) (hdd : 150 ≤ d) (hi6 : i + 6 ≤ SL) (hc : c ≤ 105) (hs : s ≤ 12952) (hiv : iv h) (k : ∀ h2, iv h2 → mm_w SL xs (mm_s SL xs d) mm_am kL_law 105 12952 (some .boolean) (fun r _ => r = some (.int 1)) 1549 [some (.ref 0), some (.ref 2), some (.ref 65), some (.int (nI i))] [] h2 c s) : mm_w SL xs (mm_s SL xs d) mm_am kL_law 105 12952 (some .boolean) (fun r _ => r = some (.int 1)) 326 [some (.ref 0), some (.ref 2), some (.ref 65), some (.int (nI i))] [] h c s := by
  refine sp_aload_n 327 rfl rfl rfl ?_
  refine sp_aload_n 328 rfl rfl rfl ?_
  refine sp_iload_n 329 rfl rfl rfl ?_
  refine sp_iconst 330 rfl rfl ?_
  refine sp_iadd 331 rfl rfl ?_
  refine sp_sald 332 rfl (lo_in hi6 1 (by decide) hSL) rfl ?_
  refine sc_V 335 rfl rfl hiv.1 rfl rfl hc hs rfl ?_
  refine ca_go hdd hiv (fun r9 h1 hk9 hm => ?_)
  refine sp_aload_n 336 rfl rfl rfl ?_
  refine sp_aload_n 337 rfl rfl rfl ?_
  refine sp_iload_n 338 rfl rfl rfl ?_
  refine sp_iconst 339 rfl rfl ?_
  refine sp_iadd 340 rfl rfl ?_
  refine sp_sald 341 rfl (lo_in hi6 1 (by decide) hSL) rfl ?_
  refine sc_V 344 rfl rfl hk9 rfl rfl hc hs rfl ?_
  refine hm _ (fun h2 hiv2 => ?_)
  exact sp_ic_eq 347 rfl rfl (fun _ => k h2 hiv2) (fun q => absurd rfl q)
set_option maxRecDepth 100000 in
theorem lo_post {SL : Nat} {xs : Nat → Int32} {d i c s : Nat} {h : mm_H} (hSL : SL ≤ 3072) (hdd : 150 ≤ d) (hi6 : i + 6 ≤ SL) (hc : c ≤ 105) (hs : s ≤ 12952) (hiv : iv h) (k : ∀ h2, iv h2 → mm_w SL xs (mm_s SL xs d) mm_am kL_law 105 12952 (some .boolean) (fun r _ => r = some (.int 1)) 1549 [some (.ref 0), some (.ref 2), some (.ref 65), some (.int (nI i))] [] h2 c s) : mm_w SL xs (mm_s SL xs d) mm_am kL_law 105 12952 (some .boolean) (fun r _ => r = some (.int 1)) 349 [some (.ref 0), some (.ref 2), some (.ref 65), some (.int (nI i))] [] h c s := by
  refine sp_aload_n 350 rfl rfl rfl ?_
  refine sp_aload_n 351 rfl rfl rfl ?_
  refine sp_iload_n 352 rfl rfl rfl ?_
  refine sp_iconst 353 rfl rfl ?_
  refine sp_iadd 354 rfl rfl ?_
  refine sp_sald 355 rfl (lo_in hi6 1 (by decide) hSL) rfl ?_
  refine sp_aload_n 356 rfl rfl rfl ?_
  refine sp_iload_n 357 rfl rfl rfl ?_
  refine sp_iconst 358 rfl rfl ?_
  refine sp_iadd 359 rfl rfl ?_
  refine sp_sald 360 rfl (lo_in hi6 2 (by decide) hSL) rfl ?_
  refine sc_V 363 rfl rfl hiv.1 rfl rfl hc hs rfl ?_
  refine ca_post hdd hiv (fun r9 h1 hk9 hm => ?_)
  refine sp_aload_n 364 rfl rfl rfl ?_
  refine sp_aload_n 365 rfl rfl rfl ?_
  refine sp_iload_n 366 rfl rfl rfl ?_
  refine sp_iconst 367 rfl rfl ?_
  refine sp_iadd 368 rfl rfl ?_
  refine sp_sald 369 rfl (lo_in hi6 1 (by decide) hSL) rfl ?_
  refine sp_aload_n 370 rfl rfl rfl ?_
  refine sp_iload_n 371 rfl rfl rfl ?_
  refine sp_iconst 372 rfl rfl ?_
  refine sp_iadd 373 rfl rfl ?_
  refine sp_sald 374 rfl (lo_in hi6 2 (by decide) hSL) rfl ?_
  refine sc_V 377 rfl rfl hk9 rfl rfl hc hs rfl ?_
  refine hm _ (fun h2 hiv2 => ?_)
  exact sp_ic_eq 380 rfl rfl (fun _ => k h2 hiv2) (fun q => absurd rfl q)
set_option maxRecDepth 100000 in
theorem lo_went {SL : Nat} {xs : Nat → Int32} {d i c s : Nat} {h : mm_H} (hSL : SL ≤ 3072) (hdd : 150 ≤ d) (hi6 : i + 6 ≤ SL) (hc : c ≤ 105) (hs : s ≤ 12952) (hiv : iv h) (k : ∀ h2, iv h2 → mm_w SL xs (mm_s SL xs d) mm_am kL_law 105 12952 (some .boolean) (fun r _ => r = some (.int 1)) 1549 [some (.ref 0), some (.ref 2), some (.ref 65), some (.int (nI i))] [] h2 c s) : mm_w SL xs (mm_s SL xs d) mm_am kL_law 105 12952 (some .boolean) (fun r _ => r = some (.int 1)) 382 [some (.ref 0), some (.ref 2), some (.ref 65), some (.int (nI i))] [] h c s := by
  refine sp_aload_n 383 rfl rfl rfl ?_
  refine sp_aload_n 384 rfl rfl rfl ?_
  refine sp_iload_n 385 rfl rfl rfl ?_
  refine sp_iconst 386 rfl rfl ?_
  refine sp_iadd 387 rfl rfl ?_
  refine sp_sald 388 rfl (lo_in hi6 1 (by decide) hSL) rfl ?_
  refine sc_V 391 rfl rfl hiv.1 rfl rfl hc hs rfl ?_
  refine ca_went hdd hiv (fun r9 h1 hk9 hm => ?_)
  refine sp_aload_n 392 rfl rfl rfl ?_
  refine sp_aload_n 393 rfl rfl rfl ?_
  refine sp_iload_n 394 rfl rfl rfl ?_
  refine sp_iconst 395 rfl rfl ?_
  refine sp_iadd 396 rfl rfl ?_
  refine sp_sald 397 rfl (lo_in hi6 1 (by decide) hSL) rfl ?_
  refine sc_V 400 rfl rfl hk9 rfl rfl hc hs rfl ?_
  refine hm _ (fun h2 hiv2 => ?_)
  exact sp_ic_eq 403 rfl rfl (fun _ => k h2 hiv2) (fun q => absurd rfl q)
set_option maxRecDepth 100000 in
theorem lo_left {SL : Nat} {xs : Nat → Int32} {d i c s : Nat} {h : mm_H} (hSL : SL ≤ 3072) (hdd : 150 ≤ d) (hi6 : i + 6 ≤ SL) (hc : c ≤ 105) (hs : s ≤ 12952) (hiv : iv h) (k : ∀ h2, iv h2 → mm_w SL xs (mm_s SL xs d) mm_am kL_law 105 12952 (some .boolean) (fun r _ => r = some (.int 1)) 1549 [some (.ref 0), some (.ref 2), some (.ref 65), some (.int (nI i))] [] h2 c s) : mm_w SL xs (mm_s SL xs d) mm_am kL_law 105 12952 (some .boolean) (fun r _ => r = some (.int 1)) 405 [some (.ref 0), some (.ref 2), some (.ref 65), some (.int (nI i))] [] h c s := by
  refine sp_aload_n 406 rfl rfl rfl ?_
  refine sc_V 409 rfl rfl hiv.1 rfl rfl hc hs rfl ?_
  refine ca_left hdd hiv (fun r9 h1 hk9 hm => ?_)
  refine sp_aload_n 410 rfl rfl rfl ?_
  refine sc_V 413 rfl rfl hk9 rfl rfl hc hs rfl ?_
  refine hm _ (fun h2 hiv2 => ?_)
  refine sp_lcmp 414 rfl rfl ?_
  exact sp_if_eq 417 rfl rfl (fun _ => k h2 hiv2) (fun q => absurd (by simp [lg_cmp]) q)
set_option maxRecDepth 100000 in
theorem lo_when {SL : Nat} {xs : Nat → Int32} {d i c s : Nat} {h : mm_H} (hSL : SL ≤ 3072) (hdd : 150 ≤ d) (hi6 : i + 6 ≤ SL) (hc : c ≤ 105) (hs : s ≤ 12952) (hiv : iv h) (k : ∀ h2, iv h2 → mm_w SL xs (mm_s SL xs d) mm_am kL_law 105 12952 (some .boolean) (fun r _ => r = some (.int 1)) 1549 [some (.ref 0), some (.ref 2), some (.ref 65), some (.int (nI i))] [] h2 c s) : mm_w SL xs (mm_s SL xs d) mm_am kL_law 105 12952 (some .boolean) (fun r _ => r = some (.int 1)) 419 [some (.ref 0), some (.ref 2), some (.ref 65), some (.int (nI i))] [] h c s := by
  refine sp_aload_n 420 rfl rfl rfl ?_
  refine sp_aload_n 421 rfl rfl rfl ?_
  refine sp_iload_n 422 rfl rfl rfl ?_
  refine sp_iconst 423 rfl rfl ?_
  refine sp_iadd 424 rfl rfl ?_
  refine sp_sald 425 rfl (lo_in hi6 1 (by decide) hSL) rfl ?_
  refine sc_V 428 rfl rfl hiv.1 rfl rfl hc hs rfl ?_
  refine ca_when hdd hiv (fun r9 h1 hk9 hm => ?_)
  refine sp_aload_n 429 rfl rfl rfl ?_
  refine sp_aload_n 430 rfl rfl rfl ?_
  refine sp_iload_n 431 rfl rfl rfl ?_
  refine sp_iconst 432 rfl rfl ?_
  refine sp_iadd 433 rfl rfl ?_
  refine sp_sald 434 rfl (lo_in hi6 1 (by decide) hSL) rfl ?_
  refine sc_V 437 rfl rfl hk9 rfl rfl hc hs rfl ?_
  refine hm _ (fun h2 hiv2 => ?_)
  exact sp_ic_eq 440 rfl rfl (fun _ => k h2 hiv2) (fun q => absurd rfl q)
set_option maxRecDepth 100000 in
theorem lo_late {SL : Nat} {xs : Nat → Int32} {d i c s : Nat} {h : mm_H} (hSL : SL ≤ 3072) (hdd : 150 ≤ d) (hi6 : i + 6 ≤ SL) (hc : c ≤ 105) (hs : s ≤ 12952) (hiv : iv h) (k : ∀ h2, iv h2 → mm_w SL xs (mm_s SL xs d) mm_am kL_law 105 12952 (some .boolean) (fun r _ => r = some (.int 1)) 1549 [some (.ref 0), some (.ref 2), some (.ref 65), some (.int (nI i))] [] h2 c s) : mm_w SL xs (mm_s SL xs d) mm_am kL_law 105 12952 (some .boolean) (fun r _ => r = some (.int 1)) 442 [some (.ref 0), some (.ref 2), some (.ref 65), some (.int (nI i))] [] h c s := by
  refine sp_aload_n 443 rfl rfl rfl ?_
  refine sp_aload_n 444 rfl rfl rfl ?_
  refine sp_iload_n 445 rfl rfl rfl ?_
  refine sp_iconst 446 rfl rfl ?_
  refine sp_iadd 447 rfl rfl ?_
  refine sp_sald 448 rfl (lo_in hi6 1 (by decide) hSL) rfl ?_
  refine sc_V 451 rfl rfl hiv.1 rfl rfl hc hs rfl ?_
  refine ca_late hdd hiv (fun r9 h1 hk9 hm => ?_)
  refine sp_aload_n 452 rfl rfl rfl ?_
  refine sp_aload_n 453 rfl rfl rfl ?_
  refine sp_iload_n 454 rfl rfl rfl ?_
  refine sp_iconst 455 rfl rfl ?_
  refine sp_iadd 456 rfl rfl ?_
  refine sp_sald 457 rfl (lo_in hi6 1 (by decide) hSL) rfl ?_
  refine sc_V 460 rfl rfl hk9 rfl rfl hc hs rfl ?_
  refine hm _ (fun h2 hiv2 => ?_)
  refine sp_lcmp 461 rfl rfl ?_
  exact sp_if_eq 464 rfl rfl (fun _ => k h2 hiv2) (fun q => absurd (by simp [lg_cmp]) q)
set_option maxRecDepth 100000 in
theorem lo_bribe {SL : Nat} {xs : Nat → Int32} {d i c s : Nat} {h : mm_H} (hSL : SL ≤ 3072) (hdd : 150 ≤ d) (hi6 : i + 6 ≤ SL) (hc : c ≤ 105) (hs : s ≤ 12952) (hiv : iv h) (k : ∀ h2, iv h2 → mm_w SL xs (mm_s SL xs d) mm_am kL_law 105 12952 (some .boolean) (fun r _ => r = some (.int 1)) 1549 [some (.ref 0), some (.ref 2), some (.ref 65), some (.int (nI i))] [] h2 c s) : mm_w SL xs (mm_s SL xs d) mm_am kL_law 105 12952 (some .boolean) (fun r _ => r = some (.int 1)) 466 [some (.ref 0), some (.ref 2), some (.ref 65), some (.int (nI i))] [] h c s := by
  refine sp_aload_n 467 rfl rfl rfl ?_
  refine sp_aload_n 468 rfl rfl rfl ?_
  refine sp_iload_n 469 rfl rfl rfl ?_
  refine sp_iconst 470 rfl rfl ?_
  refine sp_iadd 471 rfl rfl ?_
  refine sp_sald 472 rfl (lo_in hi6 1 (by decide) hSL) rfl ?_
  refine sc_V 475 rfl rfl hiv.1 rfl rfl hc hs rfl ?_
  refine ca_bribe hdd hiv (fun r9 h1 hk9 hm => ?_)
  refine sp_aload_n 476 rfl rfl rfl ?_
  refine sp_aload_n 477 rfl rfl rfl ?_
  refine sp_iload_n 478 rfl rfl rfl ?_
  refine sp_iconst 479 rfl rfl ?_
  refine sp_iadd 480 rfl rfl ?_
  refine sp_sald 481 rfl (lo_in hi6 1 (by decide) hSL) rfl ?_
  refine sc_V 484 rfl rfl hk9 rfl rfl hc hs rfl ?_
  refine hm _ (fun h2 hiv2 => ?_)
  exact sp_ic_eq 487 rfl rfl (fun _ => k h2 hiv2) (fun q => absurd rfl q)
set_option maxRecDepth 100000 in
theorem lo_stay {SL : Nat} {xs : Nat → Int32} {d i c s : Nat} {h : mm_H} (hSL : SL ≤ 3072) (hdd : 150 ≤ d) (hi6 : i + 6 ≤ SL) (hc : c ≤ 105) (hs : s ≤ 12952) (hiv : iv h) (k : ∀ h2, iv h2 → mm_w SL xs (mm_s SL xs d) mm_am kL_law 105 12952 (some .boolean) (fun r _ => r = some (.int 1)) 1549 [some (.ref 0), some (.ref 2), some (.ref 65), some (.int (nI i))] [] h2 c s) : mm_w SL xs (mm_s SL xs d) mm_am kL_law 105 12952 (some .boolean) (fun r _ => r = some (.int 1)) 489 [some (.ref 0), some (.ref 2), some (.ref 65), some (.int (nI i))] [] h c s := by
  refine sp_aload_n 490 rfl rfl rfl ?_
  refine sp_aload_n 491 rfl rfl rfl ?_
  refine sp_iload_n 492 rfl rfl rfl ?_
  refine sp_iconst 493 rfl rfl ?_
  refine sp_iadd 494 rfl rfl ?_
  refine sp_sald 495 rfl (lo_in hi6 1 (by decide) hSL) rfl ?_
  refine sc_V 498 rfl rfl hiv.1 rfl rfl hc hs rfl ?_
  refine ca_stay hdd hiv (fun r9 h1 hk9 hm => ?_)
  refine sp_aload_n 499 rfl rfl rfl ?_
  refine sp_aload_n 500 rfl rfl rfl ?_
  refine sp_iload_n 501 rfl rfl rfl ?_
  refine sp_iconst 502 rfl rfl ?_
  refine sp_iadd 503 rfl rfl ?_
  refine sp_sald 504 rfl (lo_in hi6 1 (by decide) hSL) rfl ?_
  refine sc_V 507 rfl rfl hk9 rfl rfl hc hs rfl ?_
  refine hm _ (fun h2 hiv2 => ?_)
  refine sp_lcmp 508 rfl rfl ?_
  exact sp_if_eq 511 rfl rfl (fun _ => k h2 hiv2) (fun q => absurd (by simp [lg_cmp]) q)
set_option maxRecDepth 100000 in
theorem lo_meet {SL : Nat} {xs : Nat → Int32} {d i c s : Nat} {h : mm_H} (hSL : SL ≤ 3072) (hdd : 150 ≤ d) (hi6 : i + 6 ≤ SL) (hc : c ≤ 105) (hs : s ≤ 12952) (hiv : iv h) (k : ∀ h2, iv h2 → mm_w SL xs (mm_s SL xs d) mm_am kL_law 105 12952 (some .boolean) (fun r _ => r = some (.int 1)) 1549 [some (.ref 0), some (.ref 2), some (.ref 65), some (.int (nI i))] [] h2 c s) : mm_w SL xs (mm_s SL xs d) mm_am kL_law 105 12952 (some .boolean) (fun r _ => r = some (.int 1)) 513 [some (.ref 0), some (.ref 2), some (.ref 65), some (.int (nI i))] [] h c s := by
  refine sp_aload_n 514 rfl rfl rfl ?_
  refine sc_V 517 rfl rfl hiv.1 rfl rfl hc hs rfl ?_
  refine ca_meet hdd hiv (fun r9 h1 hk9 hm => ?_)
  refine sp_aload_n 518 rfl rfl rfl ?_
  refine sc_V 521 rfl rfl hk9 rfl rfl hc hs rfl ?_
  refine hm _ (fun h2 hiv2 => ?_)
  exact sp_ic_eq 524 rfl rfl (fun _ => k h2 hiv2) (fun q => absurd rfl q)
set_option maxRecDepth 100000 in
theorem lo_begins {SL : Nat} {xs : Nat → Int32} {d i c s : Nat} {h : mm_H} (hSL : SL ≤ 3072) (hdd : 150 ≤ d) (hi6 : i + 6 ≤ SL) (hc : c ≤ 105) (hs : s ≤ 12952) (hiv : iv h) (k : ∀ h2, iv h2 → mm_w SL xs (mm_s SL xs d) mm_am kL_law 105 12952 (some .boolean) (fun r _ => r = some (.int 1)) 1549 [some (.ref 0), some (.ref 2), some (.ref 65), some (.int (nI i))] [] h2 c s) : mm_w SL xs (mm_s SL xs d) mm_am kL_law 105 12952 (some .boolean) (fun r _ => r = some (.int 1)) 526 [some (.ref 0), some (.ref 2), some (.ref 65), some (.int (nI i))] [] h c s := by
  refine sp_aload_n 527 rfl rfl rfl ?_
  refine sp_aload_n 528 rfl rfl rfl ?_
  refine sp_iload_n 529 rfl rfl rfl ?_
  refine sp_iconst 530 rfl rfl ?_
  refine sp_iadd 531 rfl rfl ?_
  refine sp_sald 532 rfl (lo_in hi6 1 (by decide) hSL) rfl ?_
  refine sc_V 535 rfl rfl hiv.1 rfl rfl hc hs rfl ?_
  refine ca_begins hdd hiv (fun r9 h1 hk9 hm => ?_)
  refine sp_aload_n 536 rfl rfl rfl ?_
  refine sp_aload_n 537 rfl rfl rfl ?_
  refine sp_iload_n 538 rfl rfl rfl ?_
  refine sp_iconst 539 rfl rfl ?_
  refine sp_iadd 540 rfl rfl ?_
  refine sp_sald 541 rfl (lo_in hi6 1 (by decide) hSL) rfl ?_
  refine sc_V 544 rfl rfl hk9 rfl rfl hc hs rfl ?_
  refine hm _ (fun h2 hiv2 => ?_)
  refine sp_lcmp 545 rfl rfl ?_
  exact sp_if_eq 548 rfl rfl (fun _ => k h2 hiv2) (fun q => absurd (by simp [lg_cmp]) q)
set_option maxRecDepth 100000 in
theorem lo_chooses {SL : Nat} {xs : Nat → Int32} {d i c s : Nat} {h : mm_H} (hSL : SL ≤ 3072) (hdd : 150 ≤ d) (hi6 : i + 6 ≤ SL) (hc : c ≤ 105) (hs : s ≤ 12952) (hiv : iv h) (k : ∀ h2, iv h2 → mm_w SL xs (mm_s SL xs d) mm_am kL_law 105 12952 (some .boolean) (fun r _ => r = some (.int 1)) 1549 [some (.ref 0), some (.ref 2), some (.ref 65), some (.int (nI i))] [] h2 c s) : mm_w SL xs (mm_s SL xs d) mm_am kL_law 105 12952 (some .boolean) (fun r _ => r = some (.int 1)) 550 [some (.ref 0), some (.ref 2), some (.ref 65), some (.int (nI i))] [] h c s := by
  refine sp_aload_n 551 rfl rfl rfl ?_
  refine sp_aload_n 552 rfl rfl rfl ?_
  refine sp_iload_n 553 rfl rfl rfl ?_
  refine sp_iconst 554 rfl rfl ?_
  refine sp_iadd 555 rfl rfl ?_
  refine sp_sald 556 rfl (lo_in hi6 1 (by decide) hSL) rfl ?_
  refine sp_i2l 557 rfl rfl ?_
  refine sp_bipush 559 rfl rfl ?_
  refine sp_lshl 560 rfl rfl ?_
  refine sp_aload_n 561 rfl rfl rfl ?_
  refine sp_iload_n 562 rfl rfl rfl ?_
  refine sp_iconst 563 rfl rfl ?_
  refine sp_iadd 564 rfl rfl ?_
  refine sp_sald 565 rfl (lo_in hi6 2 (by decide) hSL) rfl ?_
  refine sp_i2l 566 rfl rfl ?_
  refine sp_ldc2 569 rfl rfl ?_
  refine sp_land 570 rfl rfl ?_
  refine sp_lor 571 rfl rfl ?_
  refine sc_V 574 rfl rfl hiv.1 rfl rfl hc hs rfl ?_
  refine ca_chooses hdd hiv (fun r9 h1 hk9 hm => ?_)
  refine sp_aload_n 575 rfl rfl rfl ?_
  refine sp_aload_n 576 rfl rfl rfl ?_
  refine sp_iload_n 577 rfl rfl rfl ?_
  refine sp_iconst 578 rfl rfl ?_
  refine sp_iadd 579 rfl rfl ?_
  refine sp_sald 580 rfl (lo_in hi6 1 (by decide) hSL) rfl ?_
  refine sp_i2l 581 rfl rfl ?_
  refine sp_bipush 583 rfl rfl ?_
  refine sp_lshl 584 rfl rfl ?_
  refine sp_aload_n 585 rfl rfl rfl ?_
  refine sp_iload_n 586 rfl rfl rfl ?_
  refine sp_iconst 587 rfl rfl ?_
  refine sp_iadd 588 rfl rfl ?_
  refine sp_sald 589 rfl (lo_in hi6 2 (by decide) hSL) rfl ?_
  refine sp_i2l 590 rfl rfl ?_
  refine sp_ldc2 593 rfl rfl ?_
  refine sp_land 594 rfl rfl ?_
  refine sp_lor 595 rfl rfl ?_
  refine sc_V 598 rfl rfl hk9 rfl rfl hc hs rfl ?_
  refine hm _ (fun h2 hiv2 => ?_)
  exact sp_ic_eq 601 rfl rfl (fun _ => k h2 hiv2) (fun q => absurd rfl q)
set_option maxRecDepth 100000 in
theorem lo_order {SL : Nat} {xs : Nat → Int32} {d i c s : Nat} {h : mm_H} (hSL : SL ≤ 3072) (hdd : 150 ≤ d) (hi6 : i + 6 ≤ SL) (hc : c ≤ 105) (hs : s ≤ 12952) (hiv : iv h) (k : ∀ h2, iv h2 → mm_w SL xs (mm_s SL xs d) mm_am kL_law 105 12952 (some .boolean) (fun r _ => r = some (.int 1)) 1549 [some (.ref 0), some (.ref 2), some (.ref 65), some (.int (nI i))] [] h2 c s) : mm_w SL xs (mm_s SL xs d) mm_am kL_law 105 12952 (some .boolean) (fun r _ => r = some (.int 1)) 603 [some (.ref 0), some (.ref 2), some (.ref 65), some (.int (nI i))] [] h c s := by
  refine sp_aload_n 604 rfl rfl rfl ?_
  refine sp_aload_n 605 rfl rfl rfl ?_
  refine sp_iload_n 606 rfl rfl rfl ?_
  refine sp_iconst 607 rfl rfl ?_
  refine sp_iadd 608 rfl rfl ?_
  refine sp_sald 609 rfl (lo_in hi6 1 (by decide) hSL) rfl ?_
  refine sc_V 612 rfl rfl hiv.1 rfl rfl hc hs rfl ?_
  refine ca_order hdd hiv (fun r9 h1 hk9 hm => ?_)
  refine sp_aload_n 613 rfl rfl rfl ?_
  refine sp_aload_n 614 rfl rfl rfl ?_
  refine sp_iload_n 615 rfl rfl rfl ?_
  refine sp_iconst 616 rfl rfl ?_
  refine sp_iadd 617 rfl rfl ?_
  refine sp_sald 618 rfl (lo_in hi6 1 (by decide) hSL) rfl ?_
  refine sc_V 621 rfl rfl hk9 rfl rfl hc hs rfl ?_
  refine hm _ (fun h2 hiv2 => ?_)
  exact sp_ic_eq 624 rfl rfl (fun _ => k h2 hiv2) (fun q => absurd rfl q)
set_option maxRecDepth 100000 in
theorem lo_keep {SL : Nat} {xs : Nat → Int32} {d i c s : Nat} {h : mm_H} (hSL : SL ≤ 3072) (hdd : 150 ≤ d) (hi6 : i + 6 ≤ SL) (hc : c ≤ 105) (hs : s ≤ 12952) (hiv : iv h) (k : ∀ h2, iv h2 → mm_w SL xs (mm_s SL xs d) mm_am kL_law 105 12952 (some .boolean) (fun r _ => r = some (.int 1)) 1549 [some (.ref 0), some (.ref 2), some (.ref 65), some (.int (nI i))] [] h2 c s) : mm_w SL xs (mm_s SL xs d) mm_am kL_law 105 12952 (some .boolean) (fun r _ => r = some (.int 1)) 626 [some (.ref 0), some (.ref 2), some (.ref 65), some (.int (nI i))] [] h c s := by
  refine sp_aload_n 627 rfl rfl rfl ?_
  refine sp_aload_n 628 rfl rfl rfl ?_
  refine sp_iload_n 629 rfl rfl rfl ?_
  refine sp_iconst 630 rfl rfl ?_
  refine sp_iadd 631 rfl rfl ?_
  refine sp_sald 632 rfl (lo_in hi6 1 (by decide) hSL) rfl ?_
  refine sc_V 635 rfl rfl hiv.1 rfl rfl hc hs rfl ?_
  refine ca_keep hdd hiv (fun r9 h1 hk9 hm => ?_)
  refine sp_aload_n 636 rfl rfl rfl ?_
  refine sp_aload_n 637 rfl rfl rfl ?_
  refine sp_iload_n 638 rfl rfl rfl ?_
  refine sp_iconst 639 rfl rfl ?_
  refine sp_iadd 640 rfl rfl ?_
  refine sp_sald 641 rfl (lo_in hi6 1 (by decide) hSL) rfl ?_
  refine sc_V 644 rfl rfl hk9 rfl rfl hc hs rfl ?_
  refine hm _ (fun h2 hiv2 => ?_)
  exact sp_ic_eq 647 rfl rfl (fun _ => k h2 hiv2) (fun q => absurd rfl q)
set_option maxRecDepth 100000 in
theorem lo_judge {SL : Nat} {xs : Nat → Int32} {d i c s : Nat} {h : mm_H} (hSL : SL ≤ 3072) (hdd : 150 ≤ d) (hi6 : i + 6 ≤ SL) (hc : c ≤ 105) (hs : s ≤ 12952) (hiv : iv h) (k : ∀ h2, iv h2 → mm_w SL xs (mm_s SL xs d) mm_am kL_law 105 12952 (some .boolean) (fun r _ => r = some (.int 1)) 1549 [some (.ref 0), some (.ref 2), some (.ref 65), some (.int (nI i))] [] h2 c s) : mm_w SL xs (mm_s SL xs d) mm_am kL_law 105 12952 (some .boolean) (fun r _ => r = some (.int 1)) 649 [some (.ref 0), some (.ref 2), some (.ref 65), some (.int (nI i))] [] h c s := by
  refine sp_aload_n 650 rfl rfl rfl ?_
  refine sc_V 653 rfl rfl hiv.1 rfl rfl hc hs rfl ?_
  refine ca_judge hdd hiv (fun r9 h1 hk9 hm => ?_)
  refine sp_aload_n 654 rfl rfl rfl ?_
  refine sc_V 657 rfl rfl hk9 rfl rfl hc hs rfl ?_
  refine hm _ (fun h2 hiv2 => ?_)
  exact sp_ic_eq 660 rfl rfl (fun _ => k h2 hiv2) (fun q => absurd rfl q)
set_option maxRecDepth 100000 in
theorem lo_far {SL : Nat} {xs : Nat → Int32} {d i c s : Nat} {h : mm_H} (hSL : SL ≤ 3072) (hdd : 150 ≤ d) (hi6 : i + 6 ≤ SL) (hc : c ≤ 105) (hs : s ≤ 12952) (hiv : iv h) (k : ∀ h2, iv h2 → mm_w SL xs (mm_s SL xs d) mm_am kL_law 105 12952 (some .boolean) (fun r _ => r = some (.int 1)) 1549 [some (.ref 0), some (.ref 2), some (.ref 65), some (.int (nI i))] [] h2 c s) : mm_w SL xs (mm_s SL xs d) mm_am kL_law 105 12952 (some .boolean) (fun r _ => r = some (.int 1)) 662 [some (.ref 0), some (.ref 2), some (.ref 65), some (.int (nI i))] [] h c s := by
  refine sp_aload_n 663 rfl rfl rfl ?_
  refine sp_aload_n 664 rfl rfl rfl ?_
  refine sp_iload_n 665 rfl rfl rfl ?_
  refine sp_iconst 666 rfl rfl ?_
  refine sp_iadd 667 rfl rfl ?_
  refine sp_sald 668 rfl (lo_in hi6 1 (by decide) hSL) rfl ?_
  refine sp_i2l 669 rfl rfl ?_
  refine sp_bipush 671 rfl rfl ?_
  refine sp_lshl 672 rfl rfl ?_
  refine sp_aload_n 673 rfl rfl rfl ?_
  refine sp_iload_n 674 rfl rfl rfl ?_
  refine sp_iconst 675 rfl rfl ?_
  refine sp_iadd 676 rfl rfl ?_
  refine sp_sald 677 rfl (lo_in hi6 2 (by decide) hSL) rfl ?_
  refine sp_i2l 678 rfl rfl ?_
  refine sp_ldc2 681 rfl rfl ?_
  refine sp_land 682 rfl rfl ?_
  refine sp_lor 683 rfl rfl ?_
  refine sp_aload_n 684 rfl rfl rfl ?_
  refine sp_iload_n 685 rfl rfl rfl ?_
  refine sp_iconst 686 rfl rfl ?_
  refine sp_iadd 687 rfl rfl ?_
  refine sp_sald 688 rfl (lo_in hi6 3 (by decide) hSL) rfl ?_
  refine sp_aload_n 689 rfl rfl rfl ?_
  refine sp_iload_n 690 rfl rfl rfl ?_
  refine sp_iconst 691 rfl rfl ?_
  refine sp_iadd 692 rfl rfl ?_
  refine sp_sald 693 rfl (lo_in hi6 4 (by decide) hSL) rfl ?_
  refine sp_i2l 694 rfl rfl ?_
  refine sp_bipush 696 rfl rfl ?_
  refine sp_lshl 697 rfl rfl ?_
  refine sp_aload_n 698 rfl rfl rfl ?_
  refine sp_iload_n 699 rfl rfl rfl ?_
  refine sp_iconst 700 rfl rfl ?_
  refine sp_iadd 701 rfl rfl ?_
  refine sp_sald 702 rfl (lo_in hi6 5 (by decide) hSL) rfl ?_
  refine sp_i2l 703 rfl rfl ?_
  refine sp_ldc2 706 rfl rfl ?_
  refine sp_land 707 rfl rfl ?_
  refine sp_lor 708 rfl rfl ?_
  refine sc_V 711 rfl rfl hiv.1 rfl rfl hc hs rfl ?_
  refine ca_far hdd hiv (fun r9 h1 hk9 hm => ?_)
  refine sp_aload_n 712 rfl rfl rfl ?_
  refine sp_aload_n 713 rfl rfl rfl ?_
  refine sp_iload_n 714 rfl rfl rfl ?_
  refine sp_iconst 715 rfl rfl ?_
  refine sp_iadd 716 rfl rfl ?_
  refine sp_sald 717 rfl (lo_in hi6 1 (by decide) hSL) rfl ?_
  refine sp_i2l 718 rfl rfl ?_
  refine sp_bipush 720 rfl rfl ?_
  refine sp_lshl 721 rfl rfl ?_
  refine sp_aload_n 722 rfl rfl rfl ?_
  refine sp_iload_n 723 rfl rfl rfl ?_
  refine sp_iconst 724 rfl rfl ?_
  refine sp_iadd 725 rfl rfl ?_
  refine sp_sald 726 rfl (lo_in hi6 2 (by decide) hSL) rfl ?_
  refine sp_i2l 727 rfl rfl ?_
  refine sp_ldc2 730 rfl rfl ?_
  refine sp_land 731 rfl rfl ?_
  refine sp_lor 732 rfl rfl ?_
  refine sp_aload_n 733 rfl rfl rfl ?_
  refine sp_iload_n 734 rfl rfl rfl ?_
  refine sp_iconst 735 rfl rfl ?_
  refine sp_iadd 736 rfl rfl ?_
  refine sp_sald 737 rfl (lo_in hi6 3 (by decide) hSL) rfl ?_
  refine sp_aload_n 738 rfl rfl rfl ?_
  refine sp_iload_n 739 rfl rfl rfl ?_
  refine sp_iconst 740 rfl rfl ?_
  refine sp_iadd 741 rfl rfl ?_
  refine sp_sald 742 rfl (lo_in hi6 4 (by decide) hSL) rfl ?_
  refine sp_i2l 743 rfl rfl ?_
  refine sp_bipush 745 rfl rfl ?_
  refine sp_lshl 746 rfl rfl ?_
  refine sp_aload_n 747 rfl rfl rfl ?_
  refine sp_iload_n 748 rfl rfl rfl ?_
  refine sp_iconst 749 rfl rfl ?_
  refine sp_iadd 750 rfl rfl ?_
  refine sp_sald 751 rfl (lo_in hi6 5 (by decide) hSL) rfl ?_
  refine sp_i2l 752 rfl rfl ?_
  refine sp_ldc2 755 rfl rfl ?_
  refine sp_land 756 rfl rfl ?_
  refine sp_lor 757 rfl rfl ?_
  refine sc_V 760 rfl rfl hk9 rfl rfl hc hs rfl ?_
  refine hm _ (fun h2 hiv2 => ?_)
  refine sp_lcmp 761 rfl rfl ?_
  exact sp_if_eq 764 rfl rfl (fun _ => k h2 hiv2) (fun q => absurd (by simp [lg_cmp]) q)
set_option maxRecDepth 100000 in
theorem lo_at {SL : Nat} {xs : Nat → Int32} {d i c s : Nat} {h : mm_H} (hSL : SL ≤ 3072) (hdd : 150 ≤ d) (hi6 : i + 6 ≤ SL) (hc : c ≤ 105) (hs : s ≤ 12952) (hiv : iv h) (k : ∀ h2, iv h2 → mm_w SL xs (mm_s SL xs d) mm_am kL_law 105 12952 (some .boolean) (fun r _ => r = some (.int 1)) 1549 [some (.ref 0), some (.ref 2), some (.ref 65), some (.int (nI i))] [] h2 c s) : mm_w SL xs (mm_s SL xs d) mm_am kL_law 105 12952 (some .boolean) (fun r _ => r = some (.int 1)) 766 [some (.ref 0), some (.ref 2), some (.ref 65), some (.int (nI i))] [] h c s := by
  refine sp_aload_n 767 rfl rfl rfl ?_
  refine sp_aload_n 768 rfl rfl rfl ?_
  refine sp_iload_n 769 rfl rfl rfl ?_
  refine sp_iconst 770 rfl rfl ?_
  refine sp_iadd 771 rfl rfl ?_
  refine sp_sald 772 rfl (lo_in hi6 1 (by decide) hSL) rfl ?_
  refine sp_i2l 773 rfl rfl ?_
  refine sp_bipush 775 rfl rfl ?_
  refine sp_lshl 776 rfl rfl ?_
  refine sp_aload_n 777 rfl rfl rfl ?_
  refine sp_iload_n 778 rfl rfl rfl ?_
  refine sp_iconst 779 rfl rfl ?_
  refine sp_iadd 780 rfl rfl ?_
  refine sp_sald 781 rfl (lo_in hi6 2 (by decide) hSL) rfl ?_
  refine sp_i2l 782 rfl rfl ?_
  refine sp_ldc2 785 rfl rfl ?_
  refine sp_land 786 rfl rfl ?_
  refine sp_lor 787 rfl rfl ?_
  refine sp_aload_n 788 rfl rfl rfl ?_
  refine sp_iload_n 789 rfl rfl rfl ?_
  refine sp_iconst 790 rfl rfl ?_
  refine sp_iadd 791 rfl rfl ?_
  refine sp_sald 792 rfl (lo_in hi6 3 (by decide) hSL) rfl ?_
  refine sp_aload_n 793 rfl rfl rfl ?_
  refine sp_iload_n 794 rfl rfl rfl ?_
  refine sp_iconst 795 rfl rfl ?_
  refine sp_iadd 796 rfl rfl ?_
  refine sp_sald 797 rfl (lo_in hi6 4 (by decide) hSL) rfl ?_
  refine sp_i2l 798 rfl rfl ?_
  refine sp_bipush 800 rfl rfl ?_
  refine sp_lshl 801 rfl rfl ?_
  refine sp_aload_n 802 rfl rfl rfl ?_
  refine sp_iload_n 803 rfl rfl rfl ?_
  refine sp_iconst 804 rfl rfl ?_
  refine sp_iadd 805 rfl rfl ?_
  refine sp_sald 806 rfl (lo_in hi6 5 (by decide) hSL) rfl ?_
  refine sp_i2l 807 rfl rfl ?_
  refine sp_ldc2 810 rfl rfl ?_
  refine sp_land 811 rfl rfl ?_
  refine sp_lor 812 rfl rfl ?_
  refine sc_V 815 rfl rfl hiv.1 rfl rfl hc hs rfl ?_
  refine ca_at hdd hiv (fun r9 h1 hk9 hm => ?_)
  refine sp_aload_n 816 rfl rfl rfl ?_
  refine sp_aload_n 817 rfl rfl rfl ?_
  refine sp_iload_n 818 rfl rfl rfl ?_
  refine sp_iconst 819 rfl rfl ?_
  refine sp_iadd 820 rfl rfl ?_
  refine sp_sald 821 rfl (lo_in hi6 1 (by decide) hSL) rfl ?_
  refine sp_i2l 822 rfl rfl ?_
  refine sp_bipush 824 rfl rfl ?_
  refine sp_lshl 825 rfl rfl ?_
  refine sp_aload_n 826 rfl rfl rfl ?_
  refine sp_iload_n 827 rfl rfl rfl ?_
  refine sp_iconst 828 rfl rfl ?_
  refine sp_iadd 829 rfl rfl ?_
  refine sp_sald 830 rfl (lo_in hi6 2 (by decide) hSL) rfl ?_
  refine sp_i2l 831 rfl rfl ?_
  refine sp_ldc2 834 rfl rfl ?_
  refine sp_land 835 rfl rfl ?_
  refine sp_lor 836 rfl rfl ?_
  refine sp_aload_n 837 rfl rfl rfl ?_
  refine sp_iload_n 838 rfl rfl rfl ?_
  refine sp_iconst 839 rfl rfl ?_
  refine sp_iadd 840 rfl rfl ?_
  refine sp_sald 841 rfl (lo_in hi6 3 (by decide) hSL) rfl ?_
  refine sp_aload_n 842 rfl rfl rfl ?_
  refine sp_iload_n 843 rfl rfl rfl ?_
  refine sp_iconst 844 rfl rfl ?_
  refine sp_iadd 845 rfl rfl ?_
  refine sp_sald 846 rfl (lo_in hi6 4 (by decide) hSL) rfl ?_
  refine sp_i2l 847 rfl rfl ?_
  refine sp_bipush 849 rfl rfl ?_
  refine sp_lshl 850 rfl rfl ?_
  refine sp_aload_n 851 rfl rfl rfl ?_
  refine sp_iload_n 852 rfl rfl rfl ?_
  refine sp_iconst 853 rfl rfl ?_
  refine sp_iadd 854 rfl rfl ?_
  refine sp_sald 855 rfl (lo_in hi6 5 (by decide) hSL) rfl ?_
  refine sp_i2l 856 rfl rfl ?_
  refine sp_ldc2 859 rfl rfl ?_
  refine sp_land 860 rfl rfl ?_
  refine sp_lor 861 rfl rfl ?_
  refine sc_V 864 rfl rfl hk9 rfl rfl hc hs rfl ?_
  refine hm _ (fun h2 hiv2 => ?_)
  refine sp_lcmp 865 rfl rfl ?_
  exact sp_if_eq 868 rfl rfl (fun _ => k h2 hiv2) (fun q => absurd (by simp [lg_cmp]) q)
set_option maxRecDepth 100000 in
theorem lo_size {SL : Nat} {xs : Nat → Int32} {d i c s : Nat} {h : mm_H} (hSL : SL ≤ 3072) (hdd : 150 ≤ d) (hi6 : i + 6 ≤ SL) (hc : c ≤ 105) (hs : s ≤ 12952) (hiv : iv h) (k : ∀ h2, iv h2 → mm_w SL xs (mm_s SL xs d) mm_am kL_law 105 12952 (some .boolean) (fun r _ => r = some (.int 1)) 1549 [some (.ref 0), some (.ref 2), some (.ref 65), some (.int (nI i))] [] h2 c s) : mm_w SL xs (mm_s SL xs d) mm_am kL_law 105 12952 (some .boolean) (fun r _ => r = some (.int 1)) 870 [some (.ref 0), some (.ref 2), some (.ref 65), some (.int (nI i))] [] h c s := by
  refine sp_aload_n 871 rfl rfl rfl ?_
  refine sp_aload_n 872 rfl rfl rfl ?_
  refine sp_iload_n 873 rfl rfl rfl ?_
  refine sp_iconst 874 rfl rfl ?_
  refine sp_iadd 875 rfl rfl ?_
  refine sp_sald 876 rfl (lo_in hi6 1 (by decide) hSL) rfl ?_
  refine sp_aload_n 877 rfl rfl rfl ?_
  refine sp_iload_n 878 rfl rfl rfl ?_
  refine sp_iconst 879 rfl rfl ?_
  refine sp_iadd 880 rfl rfl ?_
  refine sp_sald 881 rfl (lo_in hi6 2 (by decide) hSL) rfl ?_
  refine sp_aload_n 882 rfl rfl rfl ?_
  refine sp_iload_n 883 rfl rfl rfl ?_
  refine sp_iconst 884 rfl rfl ?_
  refine sp_iadd 885 rfl rfl ?_
  refine sp_sald 886 rfl (lo_in hi6 3 (by decide) hSL) rfl ?_
  refine sc_V 889 rfl rfl hiv.1 rfl rfl hc hs rfl ?_
  refine ca_size hdd hiv (fun r9 h1 hk9 hm => ?_)
  refine sp_aload_n 890 rfl rfl rfl ?_
  refine sp_aload_n 891 rfl rfl rfl ?_
  refine sp_iload_n 892 rfl rfl rfl ?_
  refine sp_iconst 893 rfl rfl ?_
  refine sp_iadd 894 rfl rfl ?_
  refine sp_sald 895 rfl (lo_in hi6 1 (by decide) hSL) rfl ?_
  refine sp_aload_n 896 rfl rfl rfl ?_
  refine sp_iload_n 897 rfl rfl rfl ?_
  refine sp_iconst 898 rfl rfl ?_
  refine sp_iadd 899 rfl rfl ?_
  refine sp_sald 900 rfl (lo_in hi6 2 (by decide) hSL) rfl ?_
  refine sp_aload_n 901 rfl rfl rfl ?_
  refine sp_iload_n 902 rfl rfl rfl ?_
  refine sp_iconst 903 rfl rfl ?_
  refine sp_iadd 904 rfl rfl ?_
  refine sp_sald 905 rfl (lo_in hi6 3 (by decide) hSL) rfl ?_
  refine sc_V 908 rfl rfl hk9 rfl rfl hc hs rfl ?_
  refine hm _ (fun h2 hiv2 => ?_)
  exact sp_ic_eq 911 rfl rfl (fun _ => k h2 hiv2) (fun q => absurd rfl q)
set_option maxRecDepth 100000 in
theorem lo_keeps {SL : Nat} {xs : Nat → Int32} {d i c s : Nat} {h : mm_H} (hSL : SL ≤ 3072) (hdd : 150 ≤ d) (hi6 : i + 6 ≤ SL) (hc : c ≤ 105) (hs : s ≤ 12952) (hiv : iv h) (k : ∀ h2, iv h2 → mm_w SL xs (mm_s SL xs d) mm_am kL_law 105 12952 (some .boolean) (fun r _ => r = some (.int 1)) 1549 [some (.ref 0), some (.ref 2), some (.ref 65), some (.int (nI i))] [] h2 c s) : mm_w SL xs (mm_s SL xs d) mm_am kL_law 105 12952 (some .boolean) (fun r _ => r = some (.int 1)) 913 [some (.ref 0), some (.ref 2), some (.ref 65), some (.int (nI i))] [] h c s := by
  refine sp_aload_n 914 rfl rfl rfl ?_
  refine sp_aload_n 915 rfl rfl rfl ?_
  refine sp_iload_n 916 rfl rfl rfl ?_
  refine sp_iconst 917 rfl rfl ?_
  refine sp_iadd 918 rfl rfl ?_
  refine sp_sald 919 rfl (lo_in hi6 1 (by decide) hSL) rfl ?_
  refine sp_aload_n 920 rfl rfl rfl ?_
  refine sp_iload_n 921 rfl rfl rfl ?_
  refine sp_iconst 922 rfl rfl ?_
  refine sp_iadd 923 rfl rfl ?_
  refine sp_sald 924 rfl (lo_in hi6 2 (by decide) hSL) rfl ?_
  refine sp_i2l 925 rfl rfl ?_
  refine sp_bipush 927 rfl rfl ?_
  refine sp_lshl 928 rfl rfl ?_
  refine sp_aload_n 929 rfl rfl rfl ?_
  refine sp_iload_n 930 rfl rfl rfl ?_
  refine sp_iconst 931 rfl rfl ?_
  refine sp_iadd 932 rfl rfl ?_
  refine sp_sald 933 rfl (lo_in hi6 3 (by decide) hSL) rfl ?_
  refine sp_i2l 934 rfl rfl ?_
  refine sp_ldc2 937 rfl rfl ?_
  refine sp_land 938 rfl rfl ?_
  refine sp_lor 939 rfl rfl ?_
  refine sc_V 942 rfl rfl hiv.1 rfl rfl hc hs rfl ?_
  refine ca_keeps hdd hiv (fun r9 h1 hk9 hm => ?_)
  refine sp_aload_n 943 rfl rfl rfl ?_
  refine sp_aload_n 944 rfl rfl rfl ?_
  refine sp_iload_n 945 rfl rfl rfl ?_
  refine sp_iconst 946 rfl rfl ?_
  refine sp_iadd 947 rfl rfl ?_
  refine sp_sald 948 rfl (lo_in hi6 1 (by decide) hSL) rfl ?_
  refine sp_aload_n 949 rfl rfl rfl ?_
  refine sp_iload_n 950 rfl rfl rfl ?_
  refine sp_iconst 951 rfl rfl ?_
  refine sp_iadd 952 rfl rfl ?_
  refine sp_sald 953 rfl (lo_in hi6 2 (by decide) hSL) rfl ?_
  refine sp_i2l 954 rfl rfl ?_
  refine sp_bipush 956 rfl rfl ?_
  refine sp_lshl 957 rfl rfl ?_
  refine sp_aload_n 958 rfl rfl rfl ?_
  refine sp_iload_n 959 rfl rfl rfl ?_
  refine sp_iconst 960 rfl rfl ?_
  refine sp_iadd 961 rfl rfl ?_
  refine sp_sald 962 rfl (lo_in hi6 3 (by decide) hSL) rfl ?_
  refine sp_i2l 963 rfl rfl ?_
  refine sp_ldc2 966 rfl rfl ?_
  refine sp_land 967 rfl rfl ?_
  refine sp_lor 968 rfl rfl ?_
  refine sc_V 971 rfl rfl hk9 rfl rfl hc hs rfl ?_
  refine hm _ (fun h2 hiv2 => ?_)
  exact sp_ic_eq 974 rfl rfl (fun _ => k h2 hiv2) (fun q => absurd rfl q)
set_option maxRecDepth 100000 in
theorem lo_first {SL : Nat} {xs : Nat → Int32} {d i c s : Nat} {h : mm_H} (hSL : SL ≤ 3072) (hdd : 150 ≤ d) (hi6 : i + 6 ≤ SL) (hc : c ≤ 105) (hs : s ≤ 12952) (hiv : iv h) (k : ∀ h2, iv h2 → mm_w SL xs (mm_s SL xs d) mm_am kL_law 105 12952 (some .boolean) (fun r _ => r = some (.int 1)) 1549 [some (.ref 0), some (.ref 2), some (.ref 65), some (.int (nI i))] [] h2 c s) : mm_w SL xs (mm_s SL xs d) mm_am kL_law 105 12952 (some .boolean) (fun r _ => r = some (.int 1)) 976 [some (.ref 0), some (.ref 2), some (.ref 65), some (.int (nI i))] [] h c s := by
  refine sp_aload_n 977 rfl rfl rfl ?_
  refine sp_aload_n 978 rfl rfl rfl ?_
  refine sp_iload_n 979 rfl rfl rfl ?_
  refine sp_iconst 980 rfl rfl ?_
  refine sp_iadd 981 rfl rfl ?_
  refine sp_sald 982 rfl (lo_in hi6 1 (by decide) hSL) rfl ?_
  refine sp_aload_n 983 rfl rfl rfl ?_
  refine sp_iload_n 984 rfl rfl rfl ?_
  refine sp_iconst 985 rfl rfl ?_
  refine sp_iadd 986 rfl rfl ?_
  refine sp_sald 987 rfl (lo_in hi6 2 (by decide) hSL) rfl ?_
  refine sp_i2l 988 rfl rfl ?_
  refine sp_bipush 990 rfl rfl ?_
  refine sp_lshl 991 rfl rfl ?_
  refine sp_aload_n 992 rfl rfl rfl ?_
  refine sp_iload_n 993 rfl rfl rfl ?_
  refine sp_iconst 994 rfl rfl ?_
  refine sp_iadd 995 rfl rfl ?_
  refine sp_sald 996 rfl (lo_in hi6 3 (by decide) hSL) rfl ?_
  refine sp_i2l 997 rfl rfl ?_
  refine sp_ldc2 1000 rfl rfl ?_
  refine sp_land 1001 rfl rfl ?_
  refine sp_lor 1002 rfl rfl ?_
  refine sc_V 1005 rfl rfl hiv.1 rfl rfl hc hs rfl ?_
  refine ca_first hdd hiv (fun r9 h1 hk9 hm => ?_)
  refine sp_aload_n 1006 rfl rfl rfl ?_
  refine sp_aload_n 1007 rfl rfl rfl ?_
  refine sp_iload_n 1008 rfl rfl rfl ?_
  refine sp_iconst 1009 rfl rfl ?_
  refine sp_iadd 1010 rfl rfl ?_
  refine sp_sald 1011 rfl (lo_in hi6 1 (by decide) hSL) rfl ?_
  refine sp_aload_n 1012 rfl rfl rfl ?_
  refine sp_iload_n 1013 rfl rfl rfl ?_
  refine sp_iconst 1014 rfl rfl ?_
  refine sp_iadd 1015 rfl rfl ?_
  refine sp_sald 1016 rfl (lo_in hi6 2 (by decide) hSL) rfl ?_
  refine sp_i2l 1017 rfl rfl ?_
  refine sp_bipush 1019 rfl rfl ?_
  refine sp_lshl 1020 rfl rfl ?_
  refine sp_aload_n 1021 rfl rfl rfl ?_
  refine sp_iload_n 1022 rfl rfl rfl ?_
  refine sp_iconst 1023 rfl rfl ?_
  refine sp_iadd 1024 rfl rfl ?_
  refine sp_sald 1025 rfl (lo_in hi6 3 (by decide) hSL) rfl ?_
  refine sp_i2l 1026 rfl rfl ?_
  refine sp_ldc2 1029 rfl rfl ?_
  refine sp_land 1030 rfl rfl ?_
  refine sp_lor 1031 rfl rfl ?_
  refine sc_V 1034 rfl rfl hk9 rfl rfl hc hs rfl ?_
  refine hm _ (fun h2 hiv2 => ?_)
  exact sp_ic_eq 1037 rfl rfl (fun _ => k h2 hiv2) (fun q => absurd rfl q)
set_option maxRecDepth 100000 in
theorem lo_number {SL : Nat} {xs : Nat → Int32} {d i c s : Nat} {h : mm_H} (hSL : SL ≤ 3072) (hdd : 150 ≤ d) (hi6 : i + 6 ≤ SL) (hc : c ≤ 105) (hs : s ≤ 12952) (hiv : iv h) (k : ∀ h2, iv h2 → mm_w SL xs (mm_s SL xs d) mm_am kL_law 105 12952 (some .boolean) (fun r _ => r = some (.int 1)) 1549 [some (.ref 0), some (.ref 2), some (.ref 65), some (.int (nI i))] [] h2 c s) : mm_w SL xs (mm_s SL xs d) mm_am kL_law 105 12952 (some .boolean) (fun r _ => r = some (.int 1)) 1039 [some (.ref 0), some (.ref 2), some (.ref 65), some (.int (nI i))] [] h c s := by
  refine sp_aload_n 1040 rfl rfl rfl ?_
  refine sp_aload_n 1041 rfl rfl rfl ?_
  refine sp_iload_n 1042 rfl rfl rfl ?_
  refine sp_iconst 1043 rfl rfl ?_
  refine sp_iadd 1044 rfl rfl ?_
  refine sp_sald 1045 rfl (lo_in hi6 1 (by decide) hSL) rfl ?_
  refine sc_V 1048 rfl rfl hiv.1 rfl rfl hc hs rfl ?_
  refine ca_number hdd hiv (fun r9 h1 hk9 hm => ?_)
  refine sp_aload_n 1049 rfl rfl rfl ?_
  refine sp_aload_n 1050 rfl rfl rfl ?_
  refine sp_iload_n 1051 rfl rfl rfl ?_
  refine sp_iconst 1052 rfl rfl ?_
  refine sp_iadd 1053 rfl rfl ?_
  refine sp_sald 1054 rfl (lo_in hi6 1 (by decide) hSL) rfl ?_
  refine sc_V 1057 rfl rfl hk9 rfl rfl hc hs rfl ?_
  refine hm _ (fun h2 hiv2 => ?_)
  refine sp_lcmp 1058 rfl rfl ?_
  exact sp_if_eq 1061 rfl rfl (fun _ => k h2 hiv2) (fun q => absurd (by simp [lg_cmp]) q)
set_option maxRecDepth 100000 in
theorem lo_guess {SL : Nat} {xs : Nat → Int32} {d i c s : Nat} {h : mm_H} (hSL : SL ≤ 3072) (hdd : 150 ≤ d) (hi6 : i + 6 ≤ SL) (hc : c ≤ 105) (hs : s ≤ 12952) (hiv : iv h) (k : ∀ h2, iv h2 → mm_w SL xs (mm_s SL xs d) mm_am kL_law 105 12952 (some .boolean) (fun r _ => r = some (.int 1)) 1549 [some (.ref 0), some (.ref 2), some (.ref 65), some (.int (nI i))] [] h2 c s) : mm_w SL xs (mm_s SL xs d) mm_am kL_law 105 12952 (some .boolean) (fun r _ => r = some (.int 1)) 1063 [some (.ref 0), some (.ref 2), some (.ref 65), some (.int (nI i))] [] h c s := by
  refine sp_aload_n 1064 rfl rfl rfl ?_
  refine sp_aload_n 1065 rfl rfl rfl ?_
  refine sp_iload_n 1066 rfl rfl rfl ?_
  refine sp_iconst 1067 rfl rfl ?_
  refine sp_iadd 1068 rfl rfl ?_
  refine sp_sald 1069 rfl (lo_in hi6 1 (by decide) hSL) rfl ?_
  refine sp_aload_n 1070 rfl rfl rfl ?_
  refine sp_iload_n 1071 rfl rfl rfl ?_
  refine sp_iconst 1072 rfl rfl ?_
  refine sp_iadd 1073 rfl rfl ?_
  refine sp_sald 1074 rfl (lo_in hi6 2 (by decide) hSL) rfl ?_
  refine sc_V 1077 rfl rfl hiv.1 rfl rfl hc hs rfl ?_
  refine ca_guess hdd hiv (fun r9 h1 hk9 hm => ?_)
  refine sp_aload_n 1078 rfl rfl rfl ?_
  refine sp_aload_n 1079 rfl rfl rfl ?_
  refine sp_iload_n 1080 rfl rfl rfl ?_
  refine sp_iconst 1081 rfl rfl ?_
  refine sp_iadd 1082 rfl rfl ?_
  refine sp_sald 1083 rfl (lo_in hi6 1 (by decide) hSL) rfl ?_
  refine sp_aload_n 1084 rfl rfl rfl ?_
  refine sp_iload_n 1085 rfl rfl rfl ?_
  refine sp_iconst 1086 rfl rfl ?_
  refine sp_iadd 1087 rfl rfl ?_
  refine sp_sald 1088 rfl (lo_in hi6 2 (by decide) hSL) rfl ?_
  refine sc_V 1091 rfl rfl hk9 rfl rfl hc hs rfl ?_
  refine hm _ (fun h2 hiv2 => ?_)
  exact sp_ic_eq 1094 rfl rfl (fun _ => k h2 hiv2) (fun q => absurd rfl q)
set_option maxRecDepth 100000 in
theorem lo_never {SL : Nat} {xs : Nat → Int32} {d i c s : Nat} {h : mm_H} (hSL : SL ≤ 3072) (hdd : 150 ≤ d) (hi6 : i + 6 ≤ SL) (hc : c ≤ 105) (hs : s ≤ 12952) (hiv : iv h) (k : ∀ h2, iv h2 → mm_w SL xs (mm_s SL xs d) mm_am kL_law 105 12952 (some .boolean) (fun r _ => r = some (.int 1)) 1549 [some (.ref 0), some (.ref 2), some (.ref 65), some (.int (nI i))] [] h2 c s) : mm_w SL xs (mm_s SL xs d) mm_am kL_law 105 12952 (some .boolean) (fun r _ => r = some (.int 1)) 1096 [some (.ref 0), some (.ref 2), some (.ref 65), some (.int (nI i))] [] h c s := by
  refine sp_aload_n 1097 rfl rfl rfl ?_
  refine sp_aload_n 1098 rfl rfl rfl ?_
  refine sp_iload_n 1099 rfl rfl rfl ?_
  refine sp_iconst 1100 rfl rfl ?_
  refine sp_iadd 1101 rfl rfl ?_
  refine sp_sald 1102 rfl (lo_in hi6 1 (by decide) hSL) rfl ?_
  refine sp_aload_n 1103 rfl rfl rfl ?_
  refine sp_iload_n 1104 rfl rfl rfl ?_
  refine sp_iconst 1105 rfl rfl ?_
  refine sp_iadd 1106 rfl rfl ?_
  refine sp_sald 1107 rfl (lo_in hi6 2 (by decide) hSL) rfl ?_
  refine sc_V 1110 rfl rfl hiv.1 rfl rfl hc hs rfl ?_
  refine ca_never hdd hiv (fun r9 h1 hk9 hm => ?_)
  refine sp_aload_n 1111 rfl rfl rfl ?_
  refine sp_aload_n 1112 rfl rfl rfl ?_
  refine sp_iload_n 1113 rfl rfl rfl ?_
  refine sp_iconst 1114 rfl rfl ?_
  refine sp_iadd 1115 rfl rfl ?_
  refine sp_sald 1116 rfl (lo_in hi6 1 (by decide) hSL) rfl ?_
  refine sp_aload_n 1117 rfl rfl rfl ?_
  refine sp_iload_n 1118 rfl rfl rfl ?_
  refine sp_iconst 1119 rfl rfl ?_
  refine sp_iadd 1120 rfl rfl ?_
  refine sp_sald 1121 rfl (lo_in hi6 2 (by decide) hSL) rfl ?_
  refine sc_V 1124 rfl rfl hk9 rfl rfl hc hs rfl ?_
  refine hm _ (fun h2 hiv2 => ?_)
  refine sp_lcmp 1125 rfl rfl ?_
  exact sp_if_eq 1128 rfl rfl (fun _ => k h2 hiv2) (fun q => absurd (by simp [lg_cmp]) q)
set_option maxRecDepth 100000 in
theorem lo_often {SL : Nat} {xs : Nat → Int32} {d i c s : Nat} {h : mm_H} (hSL : SL ≤ 3072) (hdd : 150 ≤ d) (hi6 : i + 6 ≤ SL) (hc : c ≤ 105) (hs : s ≤ 12952) (hiv : iv h) (k : ∀ h2, iv h2 → mm_w SL xs (mm_s SL xs d) mm_am kL_law 105 12952 (some .boolean) (fun r _ => r = some (.int 1)) 1549 [some (.ref 0), some (.ref 2), some (.ref 65), some (.int (nI i))] [] h2 c s) : mm_w SL xs (mm_s SL xs d) mm_am kL_law 105 12952 (some .boolean) (fun r _ => r = some (.int 1)) 1130 [some (.ref 0), some (.ref 2), some (.ref 65), some (.int (nI i))] [] h c s := by
  refine sp_aload_n 1131 rfl rfl rfl ?_
  refine sp_aload_n 1132 rfl rfl rfl ?_
  refine sp_iload_n 1133 rfl rfl rfl ?_
  refine sp_iconst 1134 rfl rfl ?_
  refine sp_iadd 1135 rfl rfl ?_
  refine sp_sald 1136 rfl (lo_in hi6 1 (by decide) hSL) rfl ?_
  refine sp_aload_n 1137 rfl rfl rfl ?_
  refine sp_iload_n 1138 rfl rfl rfl ?_
  refine sp_iconst 1139 rfl rfl ?_
  refine sp_iadd 1140 rfl rfl ?_
  refine sp_sald 1141 rfl (lo_in hi6 2 (by decide) hSL) rfl ?_
  refine sp_aload_n 1142 rfl rfl rfl ?_
  refine sp_iload_n 1143 rfl rfl rfl ?_
  refine sp_iconst 1144 rfl rfl ?_
  refine sp_iadd 1145 rfl rfl ?_
  refine sp_sald 1146 rfl (lo_in hi6 3 (by decide) hSL) rfl ?_
  refine sc_V 1149 rfl rfl hiv.1 rfl rfl hc hs rfl ?_
  refine ca_often hdd hiv (fun r9 h1 hk9 hm => ?_)
  refine sp_aload_n 1150 rfl rfl rfl ?_
  refine sp_aload_n 1151 rfl rfl rfl ?_
  refine sp_iload_n 1152 rfl rfl rfl ?_
  refine sp_iconst 1153 rfl rfl ?_
  refine sp_iadd 1154 rfl rfl ?_
  refine sp_sald 1155 rfl (lo_in hi6 1 (by decide) hSL) rfl ?_
  refine sp_aload_n 1156 rfl rfl rfl ?_
  refine sp_iload_n 1157 rfl rfl rfl ?_
  refine sp_iconst 1158 rfl rfl ?_
  refine sp_iadd 1159 rfl rfl ?_
  refine sp_sald 1160 rfl (lo_in hi6 2 (by decide) hSL) rfl ?_
  refine sp_aload_n 1161 rfl rfl rfl ?_
  refine sp_iload_n 1162 rfl rfl rfl ?_
  refine sp_iconst 1163 rfl rfl ?_
  refine sp_iadd 1164 rfl rfl ?_
  refine sp_sald 1165 rfl (lo_in hi6 3 (by decide) hSL) rfl ?_
  refine sc_V 1168 rfl rfl hk9 rfl rfl hc hs rfl ?_
  refine hm _ (fun h2 hiv2 => ?_)
  exact sp_ic_eq 1171 rfl rfl (fun _ => k h2 hiv2) (fun q => absurd rfl q)
set_option maxRecDepth 100000 in
theorem lo_ever {SL : Nat} {xs : Nat → Int32} {d i c s : Nat} {h : mm_H} (hSL : SL ≤ 3072) (hdd : 150 ≤ d) (hi6 : i + 6 ≤ SL) (hc : c ≤ 105) (hs : s ≤ 12952) (hiv : iv h) (k : ∀ h2, iv h2 → mm_w SL xs (mm_s SL xs d) mm_am kL_law 105 12952 (some .boolean) (fun r _ => r = some (.int 1)) 1549 [some (.ref 0), some (.ref 2), some (.ref 65), some (.int (nI i))] [] h2 c s) : mm_w SL xs (mm_s SL xs d) mm_am kL_law 105 12952 (some .boolean) (fun r _ => r = some (.int 1)) 1173 [some (.ref 0), some (.ref 2), some (.ref 65), some (.int (nI i))] [] h c s := by
  refine sp_aload_n 1174 rfl rfl rfl ?_
  refine sp_aload_n 1175 rfl rfl rfl ?_
  refine sp_iload_n 1176 rfl rfl rfl ?_
  refine sp_iconst 1177 rfl rfl ?_
  refine sp_iadd 1178 rfl rfl ?_
  refine sp_sald 1179 rfl (lo_in hi6 1 (by decide) hSL) rfl ?_
  refine sc_V 1182 rfl rfl hiv.1 rfl rfl hc hs rfl ?_
  refine ca_ever hdd hiv (fun r9 h1 hk9 hm => ?_)
  refine sp_aload_n 1183 rfl rfl rfl ?_
  refine sp_aload_n 1184 rfl rfl rfl ?_
  refine sp_iload_n 1185 rfl rfl rfl ?_
  refine sp_iconst 1186 rfl rfl ?_
  refine sp_iadd 1187 rfl rfl ?_
  refine sp_sald 1188 rfl (lo_in hi6 1 (by decide) hSL) rfl ?_
  refine sc_V 1191 rfl rfl hk9 rfl rfl hc hs rfl ?_
  refine hm _ (fun h2 hiv2 => ?_)
  exact sp_ic_eq 1194 rfl rfl (fun _ => k h2 hiv2) (fun q => absurd rfl q)
set_option maxRecDepth 100000 in
theorem lo_chance {SL : Nat} {xs : Nat → Int32} {d i c s : Nat} {h : mm_H} (hSL : SL ≤ 3072) (hdd : 150 ≤ d) (hi6 : i + 6 ≤ SL) (hc : c ≤ 105) (hs : s ≤ 12952) (hiv : iv h) (k : ∀ h2, iv h2 → mm_w SL xs (mm_s SL xs d) mm_am kL_law 105 12952 (some .boolean) (fun r _ => r = some (.int 1)) 1549 [some (.ref 0), some (.ref 2), some (.ref 65), some (.int (nI i))] [] h2 c s) : mm_w SL xs (mm_s SL xs d) mm_am kL_law 105 12952 (some .boolean) (fun r _ => r = some (.int 1)) 1196 [some (.ref 0), some (.ref 2), some (.ref 65), some (.int (nI i))] [] h c s := by
  refine sp_aload_n 1197 rfl rfl rfl ?_
  refine sp_aload_n 1198 rfl rfl rfl ?_
  refine sp_iload_n 1199 rfl rfl rfl ?_
  refine sp_iconst 1200 rfl rfl ?_
  refine sp_iadd 1201 rfl rfl ?_
  refine sp_sald 1202 rfl (lo_in hi6 1 (by decide) hSL) rfl ?_
  refine sp_aload_n 1203 rfl rfl rfl ?_
  refine sp_iload_n 1204 rfl rfl rfl ?_
  refine sp_iconst 1205 rfl rfl ?_
  refine sp_iadd 1206 rfl rfl ?_
  refine sp_sald 1207 rfl (lo_in hi6 2 (by decide) hSL) rfl ?_
  refine sp_aload_n 1208 rfl rfl rfl ?_
  refine sp_iload_n 1209 rfl rfl rfl ?_
  refine sp_iconst 1210 rfl rfl ?_
  refine sp_iadd 1211 rfl rfl ?_
  refine sp_sald 1212 rfl (lo_in hi6 3 (by decide) hSL) rfl ?_
  refine sc_V 1215 rfl rfl hiv.1 rfl rfl hc hs rfl ?_
  refine ca_chance hdd hiv (fun r9 h1 hk9 hm => ?_)
  refine sp_aload_n 1216 rfl rfl rfl ?_
  refine sp_aload_n 1217 rfl rfl rfl ?_
  refine sp_iload_n 1218 rfl rfl rfl ?_
  refine sp_iconst 1219 rfl rfl ?_
  refine sp_iadd 1220 rfl rfl ?_
  refine sp_sald 1221 rfl (lo_in hi6 1 (by decide) hSL) rfl ?_
  refine sp_aload_n 1222 rfl rfl rfl ?_
  refine sp_iload_n 1223 rfl rfl rfl ?_
  refine sp_iconst 1224 rfl rfl ?_
  refine sp_iadd 1225 rfl rfl ?_
  refine sp_sald 1226 rfl (lo_in hi6 2 (by decide) hSL) rfl ?_
  refine sp_aload_n 1227 rfl rfl rfl ?_
  refine sp_iload_n 1228 rfl rfl rfl ?_
  refine sp_iconst 1229 rfl rfl ?_
  refine sp_iadd 1230 rfl rfl ?_
  refine sp_sald 1231 rfl (lo_in hi6 3 (by decide) hSL) rfl ?_
  refine sc_V 1234 rfl rfl hk9 rfl rfl hc hs rfl ?_
  refine hm _ (fun h2 hiv2 => ?_)
  exact sp_ic_eq 1237 rfl rfl (fun _ => k h2 hiv2) (fun q => absurd rfl q)
set_option maxRecDepth 100000 in
theorem lo_choice {SL : Nat} {xs : Nat → Int32} {d i c s : Nat} {h : mm_H} (hSL : SL ≤ 3072) (hdd : 150 ≤ d) (hi6 : i + 6 ≤ SL) (hc : c ≤ 105) (hs : s ≤ 12952) (hiv : iv h) (k : ∀ h2, iv h2 → mm_w SL xs (mm_s SL xs d) mm_am kL_law 105 12952 (some .boolean) (fun r _ => r = some (.int 1)) 1549 [some (.ref 0), some (.ref 2), some (.ref 65), some (.int (nI i))] [] h2 c s) : mm_w SL xs (mm_s SL xs d) mm_am kL_law 105 12952 (some .boolean) (fun r _ => r = some (.int 1)) 1239 [some (.ref 0), some (.ref 2), some (.ref 65), some (.int (nI i))] [] h c s := by
  refine sp_aload_n 1240 rfl rfl rfl ?_
  refine sp_aload_n 1241 rfl rfl rfl ?_
  refine sp_iload_n 1242 rfl rfl rfl ?_
  refine sp_iconst 1243 rfl rfl ?_
  refine sp_iadd 1244 rfl rfl ?_
  refine sp_sald 1245 rfl (lo_in hi6 1 (by decide) hSL) rfl ?_
  refine sp_aload_n 1246 rfl rfl rfl ?_
  refine sp_iload_n 1247 rfl rfl rfl ?_
  refine sp_iconst 1248 rfl rfl ?_
  refine sp_iadd 1249 rfl rfl ?_
  refine sp_sald 1250 rfl (lo_in hi6 2 (by decide) hSL) rfl ?_
  refine sc_V 1253 rfl rfl hiv.1 rfl rfl hc hs rfl ?_
  refine ca_choice hdd hiv (fun r9 h1 hk9 hm => ?_)
  refine sp_aload_n 1254 rfl rfl rfl ?_
  refine sp_aload_n 1255 rfl rfl rfl ?_
  refine sp_iload_n 1256 rfl rfl rfl ?_
  refine sp_iconst 1257 rfl rfl ?_
  refine sp_iadd 1258 rfl rfl ?_
  refine sp_sald 1259 rfl (lo_in hi6 1 (by decide) hSL) rfl ?_
  refine sp_aload_n 1260 rfl rfl rfl ?_
  refine sp_iload_n 1261 rfl rfl rfl ?_
  refine sp_iconst 1262 rfl rfl ?_
  refine sp_iadd 1263 rfl rfl ?_
  refine sp_sald 1264 rfl (lo_in hi6 2 (by decide) hSL) rfl ?_
  refine sc_V 1267 rfl rfl hk9 rfl rfl hc hs rfl ?_
  refine hm _ (fun h2 hiv2 => ?_)
  exact sp_ic_eq 1270 rfl rfl (fun _ => k h2 hiv2) (fun q => absurd rfl q)
set_option maxRecDepth 100000 in
theorem lo_expected {SL : Nat} {xs : Nat → Int32} {d i c s : Nat} {h : mm_H} (hSL : SL ≤ 3072) (hdd : 150 ≤ d) (hi6 : i + 6 ≤ SL) (hc : c ≤ 105) (hs : s ≤ 12952) (hiv : iv h) (k : ∀ h2, iv h2 → mm_w SL xs (mm_s SL xs d) mm_am kL_law 105 12952 (some .boolean) (fun r _ => r = some (.int 1)) 1549 [some (.ref 0), some (.ref 2), some (.ref 65), some (.int (nI i))] [] h2 c s) : mm_w SL xs (mm_s SL xs d) mm_am kL_law 105 12952 (some .boolean) (fun r _ => r = some (.int 1)) 1272 [some (.ref 0), some (.ref 2), some (.ref 65), some (.int (nI i))] [] h c s := by
  refine sp_aload_n 1273 rfl rfl rfl ?_
  refine sp_aload_n 1274 rfl rfl rfl ?_
  refine sp_iload_n 1275 rfl rfl rfl ?_
  refine sp_iconst 1276 rfl rfl ?_
  refine sp_iadd 1277 rfl rfl ?_
  refine sp_sald 1278 rfl (lo_in hi6 1 (by decide) hSL) rfl ?_
  refine sp_aload_n 1279 rfl rfl rfl ?_
  refine sp_iload_n 1280 rfl rfl rfl ?_
  refine sp_iconst 1281 rfl rfl ?_
  refine sp_iadd 1282 rfl rfl ?_
  refine sp_sald 1283 rfl (lo_in hi6 2 (by decide) hSL) rfl ?_
  refine sp_aload_n 1284 rfl rfl rfl ?_
  refine sp_iload_n 1285 rfl rfl rfl ?_
  refine sp_iconst 1286 rfl rfl ?_
  refine sp_iadd 1287 rfl rfl ?_
  refine sp_sald 1288 rfl (lo_in hi6 3 (by decide) hSL) rfl ?_
  refine sc_V 1291 rfl rfl hiv.1 rfl rfl hc hs rfl ?_
  refine ca_expected hdd hiv (fun r9 h1 hk9 hm => ?_)
  refine sp_aload_n 1292 rfl rfl rfl ?_
  refine sp_aload_n 1293 rfl rfl rfl ?_
  refine sp_iload_n 1294 rfl rfl rfl ?_
  refine sp_iconst 1295 rfl rfl ?_
  refine sp_iadd 1296 rfl rfl ?_
  refine sp_sald 1297 rfl (lo_in hi6 1 (by decide) hSL) rfl ?_
  refine sp_aload_n 1298 rfl rfl rfl ?_
  refine sp_iload_n 1299 rfl rfl rfl ?_
  refine sp_iconst 1300 rfl rfl ?_
  refine sp_iadd 1301 rfl rfl ?_
  refine sp_sald 1302 rfl (lo_in hi6 2 (by decide) hSL) rfl ?_
  refine sp_aload_n 1303 rfl rfl rfl ?_
  refine sp_iload_n 1304 rfl rfl rfl ?_
  refine sp_iconst 1305 rfl rfl ?_
  refine sp_iadd 1306 rfl rfl ?_
  refine sp_sald 1307 rfl (lo_in hi6 3 (by decide) hSL) rfl ?_
  refine sc_V 1310 rfl rfl hk9 rfl rfl hc hs rfl ?_
  refine hm _ (fun h2 hiv2 => ?_)
  exact sp_ic_eq 1313 rfl rfl (fun _ => k h2 hiv2) (fun q => absurd rfl q)
set_option maxRecDepth 100000 in
theorem lo_sight {SL : Nat} {xs : Nat → Int32} {d i c s : Nat} {h : mm_H} (hSL : SL ≤ 3072) (hdd : 150 ≤ d) (hi6 : i + 6 ≤ SL) (hc : c ≤ 105) (hs : s ≤ 12952) (hiv : iv h) (k : ∀ h2, iv h2 → mm_w SL xs (mm_s SL xs d) mm_am kL_law 105 12952 (some .boolean) (fun r _ => r = some (.int 1)) 1549 [some (.ref 0), some (.ref 2), some (.ref 65), some (.int (nI i))] [] h2 c s) : mm_w SL xs (mm_s SL xs d) mm_am kL_law 105 12952 (some .boolean) (fun r _ => r = some (.int 1)) 1315 [some (.ref 0), some (.ref 2), some (.ref 65), some (.int (nI i))] [] h c s := by
  refine sp_aload_n 1316 rfl rfl rfl ?_
  refine sp_aload_n 1317 rfl rfl rfl ?_
  refine sp_iload_n 1318 rfl rfl rfl ?_
  refine sp_iconst 1319 rfl rfl ?_
  refine sp_iadd 1320 rfl rfl ?_
  refine sp_sald 1321 rfl (lo_in hi6 1 (by decide) hSL) rfl ?_
  refine sp_aload_n 1322 rfl rfl rfl ?_
  refine sp_iload_n 1323 rfl rfl rfl ?_
  refine sp_iconst 1324 rfl rfl ?_
  refine sp_iadd 1325 rfl rfl ?_
  refine sp_sald 1326 rfl (lo_in hi6 2 (by decide) hSL) rfl ?_
  refine sp_aload_n 1327 rfl rfl rfl ?_
  refine sp_iload_n 1328 rfl rfl rfl ?_
  refine sp_iconst 1329 rfl rfl ?_
  refine sp_iadd 1330 rfl rfl ?_
  refine sp_sald 1331 rfl (lo_in hi6 3 (by decide) hSL) rfl ?_
  refine sc_V 1334 rfl rfl hiv.1 rfl rfl hc hs rfl ?_
  refine ca_sight hdd hiv (fun r9 h1 hk9 hm => ?_)
  refine sp_aload_n 1335 rfl rfl rfl ?_
  refine sp_aload_n 1336 rfl rfl rfl ?_
  refine sp_iload_n 1337 rfl rfl rfl ?_
  refine sp_iconst 1338 rfl rfl ?_
  refine sp_iadd 1339 rfl rfl ?_
  refine sp_sald 1340 rfl (lo_in hi6 1 (by decide) hSL) rfl ?_
  refine sp_aload_n 1341 rfl rfl rfl ?_
  refine sp_iload_n 1342 rfl rfl rfl ?_
  refine sp_iconst 1343 rfl rfl ?_
  refine sp_iadd 1344 rfl rfl ?_
  refine sp_sald 1345 rfl (lo_in hi6 2 (by decide) hSL) rfl ?_
  refine sp_aload_n 1346 rfl rfl rfl ?_
  refine sp_iload_n 1347 rfl rfl rfl ?_
  refine sp_iconst 1348 rfl rfl ?_
  refine sp_iadd 1349 rfl rfl ?_
  refine sp_sald 1350 rfl (lo_in hi6 3 (by decide) hSL) rfl ?_
  refine sc_V 1353 rfl rfl hk9 rfl rfl hc hs rfl ?_
  refine hm _ (fun h2 hiv2 => ?_)
  exact sp_ic_eq 1356 rfl rfl (fun _ => k h2 hiv2) (fun q => absurd rfl q)
set_option maxRecDepth 100000 in
theorem lo_untell {SL : Nat} {xs : Nat → Int32} {d i c s : Nat} {h : mm_H} (hSL : SL ≤ 3072) (hdd : 150 ≤ d) (hi6 : i + 6 ≤ SL) (hc : c ≤ 105) (hs : s ≤ 12952) (hiv : iv h) (k : ∀ h2, iv h2 → mm_w SL xs (mm_s SL xs d) mm_am kL_law 105 12952 (some .boolean) (fun r _ => r = some (.int 1)) 1549 [some (.ref 0), some (.ref 2), some (.ref 65), some (.int (nI i))] [] h2 c s) : mm_w SL xs (mm_s SL xs d) mm_am kL_law 105 12952 (some .boolean) (fun r _ => r = some (.int 1)) 1358 [some (.ref 0), some (.ref 2), some (.ref 65), some (.int (nI i))] [] h c s := by
  refine sp_aload_n 1359 rfl rfl rfl ?_
  refine sp_aload_n 1360 rfl rfl rfl ?_
  refine sp_iload_n 1361 rfl rfl rfl ?_
  refine sp_iconst 1362 rfl rfl ?_
  refine sp_iadd 1363 rfl rfl ?_
  refine sp_sald 1364 rfl (lo_in hi6 1 (by decide) hSL) rfl ?_
  refine sc_V 1367 rfl rfl hiv.1 rfl rfl hc hs rfl ?_
  refine ca_untell hdd hiv (fun r9 h1 hk9 hm => ?_)
  refine sp_aload_n 1368 rfl rfl rfl ?_
  refine sp_aload_n 1369 rfl rfl rfl ?_
  refine sp_iload_n 1370 rfl rfl rfl ?_
  refine sp_iconst 1371 rfl rfl ?_
  refine sp_iadd 1372 rfl rfl ?_
  refine sp_sald 1373 rfl (lo_in hi6 1 (by decide) hSL) rfl ?_
  refine sc_V 1376 rfl rfl hk9 rfl rfl hc hs rfl ?_
  refine hm _ (fun h2 hiv2 => ?_)
  exact sp_ic_eq 1379 rfl rfl (fun _ => k h2 hiv2) (fun q => absurd rfl q)
set_option maxRecDepth 100000 in
theorem lo_later {SL : Nat} {xs : Nat → Int32} {d i c s : Nat} {h : mm_H} (hSL : SL ≤ 3072) (hdd : 150 ≤ d) (hi6 : i + 6 ≤ SL) (hc : c ≤ 105) (hs : s ≤ 12952) (hiv : iv h) (k : ∀ h2, iv h2 → mm_w SL xs (mm_s SL xs d) mm_am kL_law 105 12952 (some .boolean) (fun r _ => r = some (.int 1)) 1549 [some (.ref 0), some (.ref 2), some (.ref 65), some (.int (nI i))] [] h2 c s) : mm_w SL xs (mm_s SL xs d) mm_am kL_law 105 12952 (some .boolean) (fun r _ => r = some (.int 1)) 1381 [some (.ref 0), some (.ref 2), some (.ref 65), some (.int (nI i))] [] h c s := by
  refine sp_aload_n 1382 rfl rfl rfl ?_
  refine sp_aload_n 1383 rfl rfl rfl ?_
  refine sp_iload_n 1384 rfl rfl rfl ?_
  refine sp_iconst 1385 rfl rfl ?_
  refine sp_iadd 1386 rfl rfl ?_
  refine sp_sald 1387 rfl (lo_in hi6 1 (by decide) hSL) rfl ?_
  refine sc_V 1390 rfl rfl hiv.1 rfl rfl hc hs rfl ?_
  refine ca_later hdd hiv (fun r9 h1 hk9 hm => ?_)
  refine sp_aload_n 1391 rfl rfl rfl ?_
  refine sp_aload_n 1392 rfl rfl rfl ?_
  refine sp_iload_n 1393 rfl rfl rfl ?_
  refine sp_iconst 1394 rfl rfl ?_
  refine sp_iadd 1395 rfl rfl ?_
  refine sp_sald 1396 rfl (lo_in hi6 1 (by decide) hSL) rfl ?_
  refine sc_V 1399 rfl rfl hk9 rfl rfl hc hs rfl ?_
  refine hm _ (fun h2 hiv2 => ?_)
  exact sp_ic_eq 1402 rfl rfl (fun _ => k h2 hiv2) (fun q => absurd rfl q)
set_option maxRecDepth 100000 in
theorem lo_fits {SL : Nat} {xs : Nat → Int32} {d i c s : Nat} {h : mm_H} (hSL : SL ≤ 3072) (hdd : 150 ≤ d) (hi6 : i + 6 ≤ SL) (hc : c ≤ 105) (hs : s ≤ 12952) (hiv : iv h) (k : ∀ h2, iv h2 → mm_w SL xs (mm_s SL xs d) mm_am kL_law 105 12952 (some .boolean) (fun r _ => r = some (.int 1)) 1549 [some (.ref 0), some (.ref 2), some (.ref 65), some (.int (nI i))] [] h2 c s) : mm_w SL xs (mm_s SL xs d) mm_am kL_law 105 12952 (some .boolean) (fun r _ => r = some (.int 1)) 1404 [some (.ref 0), some (.ref 2), some (.ref 65), some (.int (nI i))] [] h c s := by
  refine sp_aload_n 1405 rfl rfl rfl ?_
  refine sp_aload_n 1406 rfl rfl rfl ?_
  refine sp_iload_n 1407 rfl rfl rfl ?_
  refine sp_iconst 1408 rfl rfl ?_
  refine sp_iadd 1409 rfl rfl ?_
  refine sp_sald 1410 rfl (lo_in hi6 1 (by decide) hSL) rfl ?_
  refine sp_aload_n 1411 rfl rfl rfl ?_
  refine sp_iload_n 1412 rfl rfl rfl ?_
  refine sp_iconst 1413 rfl rfl ?_
  refine sp_iadd 1414 rfl rfl ?_
  refine sp_sald 1415 rfl (lo_in hi6 2 (by decide) hSL) rfl ?_
  refine sc_V 1418 rfl rfl hiv.1 rfl rfl hc hs rfl ?_
  refine ca_fits hdd hiv (fun r9 h1 hk9 hm => ?_)
  refine sp_aload_n 1419 rfl rfl rfl ?_
  refine sp_aload_n 1420 rfl rfl rfl ?_
  refine sp_iload_n 1421 rfl rfl rfl ?_
  refine sp_iconst 1422 rfl rfl ?_
  refine sp_iadd 1423 rfl rfl ?_
  refine sp_sald 1424 rfl (lo_in hi6 1 (by decide) hSL) rfl ?_
  refine sp_aload_n 1425 rfl rfl rfl ?_
  refine sp_iload_n 1426 rfl rfl rfl ?_
  refine sp_iconst 1427 rfl rfl ?_
  refine sp_iadd 1428 rfl rfl ?_
  refine sp_sald 1429 rfl (lo_in hi6 2 (by decide) hSL) rfl ?_
  refine sc_V 1432 rfl rfl hk9 rfl rfl hc hs rfl ?_
  refine hm _ (fun h2 hiv2 => ?_)
  exact sp_ic_eq 1435 rfl rfl (fun _ => k h2 hiv2) (fun q => absurd rfl q)
set_option maxRecDepth 100000 in
theorem lo_ask {SL : Nat} {xs : Nat → Int32} {d i c s : Nat} {h : mm_H} (hSL : SL ≤ 3072) (hdd : 150 ≤ d) (hi6 : i + 6 ≤ SL) (hc : c ≤ 105) (hs : s ≤ 12952) (hiv : iv h) (k : ∀ h2, iv h2 → mm_w SL xs (mm_s SL xs d) mm_am kL_law 105 12952 (some .boolean) (fun r _ => r = some (.int 1)) 1549 [some (.ref 0), some (.ref 2), some (.ref 65), some (.int (nI i))] [] h2 c s) : mm_w SL xs (mm_s SL xs d) mm_am kL_law 105 12952 (some .boolean) (fun r _ => r = some (.int 1)) 1437 [some (.ref 0), some (.ref 2), some (.ref 65), some (.int (nI i))] [] h c s := by
  refine sp_aload_n 1438 rfl rfl rfl ?_
  refine sp_aload_n 1439 rfl rfl rfl ?_
  refine sp_iload_n 1440 rfl rfl rfl ?_
  refine sp_iconst 1441 rfl rfl ?_
  refine sp_iadd 1442 rfl rfl ?_
  refine sp_sald 1443 rfl (lo_in hi6 1 (by decide) hSL) rfl ?_
  refine sp_aload_n 1444 rfl rfl rfl ?_
  refine sp_iload_n 1445 rfl rfl rfl ?_
  refine sp_iconst 1446 rfl rfl ?_
  refine sp_iadd 1447 rfl rfl ?_
  refine sp_sald 1448 rfl (lo_in hi6 2 (by decide) hSL) rfl ?_
  refine sp_aload_n 1449 rfl rfl rfl ?_
  refine sp_iload_n 1450 rfl rfl rfl ?_
  refine sp_iconst 1451 rfl rfl ?_
  refine sp_iadd 1452 rfl rfl ?_
  refine sp_sald 1453 rfl (lo_in hi6 3 (by decide) hSL) rfl ?_
  refine sc_V 1456 rfl rfl hiv.1 rfl rfl hc hs rfl ?_
  refine ca_ask hdd hiv (fun r9 h1 hk9 hm => ?_)
  refine sp_aload_n 1457 rfl rfl rfl ?_
  refine sp_aload_n 1458 rfl rfl rfl ?_
  refine sp_iload_n 1459 rfl rfl rfl ?_
  refine sp_iconst 1460 rfl rfl ?_
  refine sp_iadd 1461 rfl rfl ?_
  refine sp_sald 1462 rfl (lo_in hi6 1 (by decide) hSL) rfl ?_
  refine sp_aload_n 1463 rfl rfl rfl ?_
  refine sp_iload_n 1464 rfl rfl rfl ?_
  refine sp_iconst 1465 rfl rfl ?_
  refine sp_iadd 1466 rfl rfl ?_
  refine sp_sald 1467 rfl (lo_in hi6 2 (by decide) hSL) rfl ?_
  refine sp_aload_n 1468 rfl rfl rfl ?_
  refine sp_iload_n 1469 rfl rfl rfl ?_
  refine sp_iconst 1470 rfl rfl ?_
  refine sp_iadd 1471 rfl rfl ?_
  refine sp_sald 1472 rfl (lo_in hi6 3 (by decide) hSL) rfl ?_
  refine sc_V 1475 rfl rfl hk9 rfl rfl hc hs rfl ?_
  refine hm _ (fun h2 hiv2 => ?_)
  exact sp_ic_eq 1478 rfl rfl (fun _ => k h2 hiv2) (fun q => absurd rfl q)
set_option maxRecDepth 100000 in
theorem lo_image {SL : Nat} {xs : Nat → Int32} {d i c s : Nat} {h : mm_H} (hSL : SL ≤ 3072) (hdd : 150 ≤ d) (hi6 : i + 6 ≤ SL) (hc : c ≤ 105) (hs : s ≤ 12952) (hiv : iv h) (k : ∀ h2, iv h2 → mm_w SL xs (mm_s SL xs d) mm_am kL_law 105 12952 (some .boolean) (fun r _ => r = some (.int 1)) 1549 [some (.ref 0), some (.ref 2), some (.ref 65), some (.int (nI i))] [] h2 c s) : mm_w SL xs (mm_s SL xs d) mm_am kL_law 105 12952 (some .boolean) (fun r _ => r = some (.int 1)) 1480 [some (.ref 0), some (.ref 2), some (.ref 65), some (.int (nI i))] [] h c s := by
  refine sp_aload_n 1481 rfl rfl rfl ?_
  refine sp_aload_n 1482 rfl rfl rfl ?_
  refine sp_iload_n 1483 rfl rfl rfl ?_
  refine sp_iconst 1484 rfl rfl ?_
  refine sp_iadd 1485 rfl rfl ?_
  refine sp_sald 1486 rfl (lo_in hi6 1 (by decide) hSL) rfl ?_
  refine sc_V 1489 rfl rfl hiv.1 rfl rfl hc hs rfl ?_
  refine ca_image hdd hiv (fun r9 h1 hk9 hm => ?_)
  refine sp_aload_n 1490 rfl rfl rfl ?_
  refine sp_aload_n 1491 rfl rfl rfl ?_
  refine sp_iload_n 1492 rfl rfl rfl ?_
  refine sp_iconst 1493 rfl rfl ?_
  refine sp_iadd 1494 rfl rfl ?_
  refine sp_sald 1495 rfl (lo_in hi6 1 (by decide) hSL) rfl ?_
  refine sc_V 1498 rfl rfl hk9 rfl rfl hc hs rfl ?_
  refine hm _ (fun h2 hiv2 => ?_)
  exact sp_ic_eq 1501 rfl rfl (fun _ => k h2 hiv2) (fun q => absurd rfl q)
set_option maxRecDepth 100000 in
theorem lo_back {SL : Nat} {xs : Nat → Int32} {d i c s : Nat} {h : mm_H} (hSL : SL ≤ 3072) (hdd : 150 ≤ d) (hi6 : i + 6 ≤ SL) (hc : c ≤ 105) (hs : s ≤ 12952) (hiv : iv h) (k : ∀ h2, iv h2 → mm_w SL xs (mm_s SL xs d) mm_am kL_law 105 12952 (some .boolean) (fun r _ => r = some (.int 1)) 1549 [some (.ref 0), some (.ref 2), some (.ref 65), some (.int (nI i))] [] h2 c s) : mm_w SL xs (mm_s SL xs d) mm_am kL_law 105 12952 (some .boolean) (fun r _ => r = some (.int 1)) 1503 [some (.ref 0), some (.ref 2), some (.ref 65), some (.int (nI i))] [] h c s := by
  refine sp_aload_n 1504 rfl rfl rfl ?_
  refine sp_aload_n 1505 rfl rfl rfl ?_
  refine sp_iload_n 1506 rfl rfl rfl ?_
  refine sp_iconst 1507 rfl rfl ?_
  refine sp_iadd 1508 rfl rfl ?_
  refine sp_sald 1509 rfl (lo_in hi6 1 (by decide) hSL) rfl ?_
  refine sc_V 1512 rfl rfl hiv.1 rfl rfl hc hs rfl ?_
  refine ca_back hdd hiv (fun r9 h1 hk9 hm => ?_)
  refine sp_aload_n 1513 rfl rfl rfl ?_
  refine sp_aload_n 1514 rfl rfl rfl ?_
  refine sp_iload_n 1515 rfl rfl rfl ?_
  refine sp_iconst 1516 rfl rfl ?_
  refine sp_iadd 1517 rfl rfl ?_
  refine sp_sald 1518 rfl (lo_in hi6 1 (by decide) hSL) rfl ?_
  refine sc_V 1521 rfl rfl hk9 rfl rfl hc hs rfl ?_
  refine hm _ (fun h2 hiv2 => ?_)
  exact sp_ic_eq 1524 rfl rfl (fun _ => k h2 hiv2) (fun q => absurd rfl q)
set_option maxRecDepth 100000 in
theorem lo_about {SL : Nat} {xs : Nat → Int32} {d i c s : Nat} {h : mm_H} (hSL : SL ≤ 3072) (hdd : 150 ≤ d) (hi6 : i + 6 ≤ SL) (hc : c ≤ 105) (hs : s ≤ 12952) (hiv : iv h) (k : ∀ h2, iv h2 → mm_w SL xs (mm_s SL xs d) mm_am kL_law 105 12952 (some .boolean) (fun r _ => r = some (.int 1)) 1549 [some (.ref 0), some (.ref 2), some (.ref 65), some (.int (nI i))] [] h2 c s) : mm_w SL xs (mm_s SL xs d) mm_am kL_law 105 12952 (some .boolean) (fun r _ => r = some (.int 1)) 1526 [some (.ref 0), some (.ref 2), some (.ref 65), some (.int (nI i))] [] h c s := by
  refine sp_aload_n 1527 rfl rfl rfl ?_
  refine sp_aload_n 1528 rfl rfl rfl ?_
  refine sp_iload_n 1529 rfl rfl rfl ?_
  refine sp_iconst 1530 rfl rfl ?_
  refine sp_iadd 1531 rfl rfl ?_
  refine sp_sald 1532 rfl (lo_in hi6 1 (by decide) hSL) rfl ?_
  refine sc_V 1535 rfl rfl hiv.1 rfl rfl hc hs rfl ?_
  refine ca_about hdd hiv (fun r9 h1 hk9 hm => ?_)
  refine sp_aload_n 1536 rfl rfl rfl ?_
  refine sp_aload_n 1537 rfl rfl rfl ?_
  refine sp_iload_n 1538 rfl rfl rfl ?_
  refine sp_iconst 1539 rfl rfl ?_
  refine sp_iadd 1540 rfl rfl ?_
  refine sp_sald 1541 rfl (lo_in hi6 1 (by decide) hSL) rfl ?_
  refine sc_V 1544 rfl rfl hk9 rfl rfl hc hs rfl ?_
  refine hm _ (fun h2 hiv2 => ?_)
  exact sp_ic_eq 1547 rfl rfl (fun _ => k h2 hiv2) (fun q => absurd rfl q)
set_option maxRecDepth 100000 in
theorem lo_loop {SL : Nat} {xs : Nat → Int32} {d : Nat} (hSL : SL ≤ 3072) (hdd : 150 ≤ d) {c s : Nat} (hc : c ≤ 105) (hs : s ≤ 12952) : ∀ (n i : Nat) (h : mm_H), i ≤ 4000 → SL + 6 ≤ i + n → iv h → mm_w SL xs (mm_s SL xs d) mm_am kL_law 105 12952 (some .boolean) (fun r _ => r = some (.int 1)) 18 [some (.ref 0), some (.ref 2), some (.ref 65), some (.int (nI i))] [] h c s
  | 0, i, h, hi, hn, hiv => by
    refine sp_iload_n 19 rfl rfl rfl ?_
    refine sp_aload_n 20 rfl rfl rfl ?_
    refine sp_slen 21 rfl rfl ?_
    refine sp_bipush 23 rfl rfl ?_
    refine sp_isub 24 rfl rfl ?_
    refine sp_ic_gt 27 rfl rfl (fun q => ?_) (fun q => absurd (lo_gt (by omega) (by omega) (by omega)) q)
    refine sp_iconst 1556 rfl rfl ?_
    exact st_zret rfl rfl (Or.inr rfl) hc hs rfl
  | n + 1, i, h, hi, hn, hiv => by
    refine sp_iload_n 19 rfl rfl rfl ?_
    refine sp_aload_n 20 rfl rfl rfl ?_
    refine sp_slen 21 rfl rfl ?_
    refine sp_bipush 23 rfl rfl ?_
    refine sp_isub 24 rfl rfl ?_
    refine sp_ic_gt 27 rfl rfl (fun q => ?_) (fun q => ?_)
    · refine sp_iconst 1556 rfl rfl ?_
      exact st_zret rfl rfl (Or.inr rfl) hc hs rfl
    · have hi6 : i + 6 ≤ SL := lo_le (by omega) (by omega) q
      have kk : ∀ h2, iv h2 → mm_w SL xs (mm_s SL xs d) mm_am kL_law 105 12952 (some .boolean) (fun r _ => r = some (.int 1)) 1549 [some (.ref 0), some (.ref 2), some (.ref 65), some (.int (nI i))] [] h2 c s := by
        intro h2 hiv2
        refine sp_iinc 1552 rfl rfl rfl rfl ?_
        refine sp_goto rfl ?_
        have e : nI i + Int32.ofInt 6 = nI (i + 6) := nI_add i 6
        show mm_w SL xs (mm_s SL xs d) mm_am kL_law 105 12952 (some .boolean) (fun r _ => r = some (.int 1)) 18 [some (.ref 0), some (.ref 2), some (.ref 65), some (.int (nI i + Int32.ofInt 6))] [] h2 c s
        rw [e]
        exact lo_loop hSL hdd hc hs n (i + 6) h2 (by omega) (by omega) hiv2
      refine sp_aload_n 28 rfl rfl rfl ?_
      refine sp_iload_n 29 rfl rfl rfl ?_
      refine sp_sald 30 rfl (lo_in0 hi6 hSL) rfl ?_
      refine sp_bipush 32 rfl rfl ?_
      refine sp_iand 33 rfl rfl ?_
      obtain ⟨j, hj, ej⟩ := pk_andE (xs (nI i).toNatClampNeg) (m := (Int8.ofInt 63).toInt32) 6 (by decide)
      rw [ej]
      by_cases hj39 : 39 ≤ j
      · refine sp_table (t := 1549) rfl ?_ (kk h hiv)
        unfold mm_tab
        rw [nI_toInt (by omega), if_pos (Or.inr (by omega))]
        rfl
      · have hj2 : j = 0 ∨ j = 1 ∨ j = 2 ∨ j = 3 ∨ j = 4 ∨ j = 5 ∨ j = 6 ∨ j = 7 ∨ j = 8 ∨ j = 9 ∨ j = 10 ∨ j = 11 ∨ j = 12 ∨ j = 13 ∨ j = 14 ∨ j = 15 ∨ j = 16 ∨ j = 17 ∨ j = 18 ∨ j = 19 ∨ j = 20 ∨ j = 21 ∨ j = 22 ∨ j = 23 ∨ j = 24 ∨ j = 25 ∨ j = 26 ∨ j = 27 ∨ j = 28 ∨ j = 29 ∨ j = 30 ∨ j = 31 ∨ j = 32 ∨ j = 33 ∨ j = 34 ∨ j = 35 ∨ j = 36 ∨ j = 37 ∨ j = 38 := by omega
        rcases hj2 with rfl | rfl | rfl | rfl | rfl | rfl | rfl | rfl | rfl | rfl | rfl | rfl | rfl | rfl | rfl | rfl | rfl | rfl | rfl | rfl | rfl | rfl | rfl | rfl | rfl | rfl | rfl | rfl | rfl | rfl | rfl | rfl | rfl | rfl | rfl | rfl | rfl | rfl | rfl
        · exact sp_table (t := 204) rfl (by decide +kernel) (lo_feed hSL hdd hi6 hc hs hiv kk)
        · exact sp_table (t := 267) rfl (by decide +kernel) (lo_end hSL hdd hi6 hc hs hiv kk)
        · exact sp_table (t := 290) rfl (by decide +kernel) (lo_ring hSL hdd hi6 hc hs hiv kk)
        · exact sp_table (t := 303) rfl (by decide +kernel) (lo_fault hSL hdd hi6 hc hs hiv kk)
        · exact sp_table (t := 326) rfl (by decide +kernel) (lo_go hSL hdd hi6 hc hs hiv kk)
        · exact sp_table (t := 349) rfl (by decide +kernel) (lo_post hSL hdd hi6 hc hs hiv kk)
        · exact sp_table (t := 382) rfl (by decide +kernel) (lo_went hSL hdd hi6 hc hs hiv kk)
        · exact sp_table (t := 405) rfl (by decide +kernel) (lo_left hSL hdd hi6 hc hs hiv kk)
        · exact sp_table (t := 419) rfl (by decide +kernel) (lo_when hSL hdd hi6 hc hs hiv kk)
        · exact sp_table (t := 442) rfl (by decide +kernel) (lo_late hSL hdd hi6 hc hs hiv kk)
        · exact sp_table (t := 466) rfl (by decide +kernel) (lo_bribe hSL hdd hi6 hc hs hiv kk)
        · exact sp_table (t := 489) rfl (by decide +kernel) (lo_stay hSL hdd hi6 hc hs hiv kk)
        · exact sp_table (t := 513) rfl (by decide +kernel) (lo_meet hSL hdd hi6 hc hs hiv kk)
        · exact sp_table (t := 526) rfl (by decide +kernel) (lo_begins hSL hdd hi6 hc hs hiv kk)
        · exact sp_table (t := 550) rfl (by decide +kernel) (lo_chooses hSL hdd hi6 hc hs hiv kk)
        · exact sp_table (t := 603) rfl (by decide +kernel) (lo_order hSL hdd hi6 hc hs hiv kk)
        · exact sp_table (t := 626) rfl (by decide +kernel) (lo_keep hSL hdd hi6 hc hs hiv kk)
        · exact sp_table (t := 649) rfl (by decide +kernel) (lo_judge hSL hdd hi6 hc hs hiv kk)
        · exact sp_table (t := 662) rfl (by decide +kernel) (lo_far hSL hdd hi6 hc hs hiv kk)
        · exact sp_table (t := 766) rfl (by decide +kernel) (lo_at hSL hdd hi6 hc hs hiv kk)
        · exact sp_table (t := 870) rfl (by decide +kernel) (lo_size hSL hdd hi6 hc hs hiv kk)
        · exact sp_table (t := 913) rfl (by decide +kernel) (lo_keeps hSL hdd hi6 hc hs hiv kk)
        · exact sp_table (t := 976) rfl (by decide +kernel) (lo_first hSL hdd hi6 hc hs hiv kk)
        · exact sp_table (t := 1039) rfl (by decide +kernel) (lo_number hSL hdd hi6 hc hs hiv kk)
        · exact sp_table (t := 1063) rfl (by decide +kernel) (lo_guess hSL hdd hi6 hc hs hiv kk)
        · exact sp_table (t := 1096) rfl (by decide +kernel) (lo_never hSL hdd hi6 hc hs hiv kk)
        · exact sp_table (t := 1130) rfl (by decide +kernel) (lo_often hSL hdd hi6 hc hs hiv kk)
        · exact sp_table (t := 1173) rfl (by decide +kernel) (lo_ever hSL hdd hi6 hc hs hiv kk)
        · exact sp_table (t := 1196) rfl (by decide +kernel) (lo_chance hSL hdd hi6 hc hs hiv kk)
        · exact sp_table (t := 1239) rfl (by decide +kernel) (lo_choice hSL hdd hi6 hc hs hiv kk)
        · exact sp_table (t := 1272) rfl (by decide +kernel) (lo_expected hSL hdd hi6 hc hs hiv kk)
        · exact sp_table (t := 1315) rfl (by decide +kernel) (lo_sight hSL hdd hi6 hc hs hiv kk)
        · exact sp_table (t := 1358) rfl (by decide +kernel) (lo_untell hSL hdd hi6 hc hs hiv kk)
        · exact sp_table (t := 1381) rfl (by decide +kernel) (lo_later hSL hdd hi6 hc hs hiv kk)
        · exact sp_table (t := 1404) rfl (by decide +kernel) (lo_fits hSL hdd hi6 hc hs hiv kk)
        · exact sp_table (t := 1437) rfl (by decide +kernel) (lo_ask hSL hdd hi6 hc hs hiv kk)
        · exact sp_table (t := 1480) rfl (by decide +kernel) (lo_image hSL hdd hi6 hc hs hiv kk)
        · exact sp_table (t := 1503) rfl (by decide +kernel) (lo_back hSL hdd hi6 hc hs hiv kk)
        · exact sp_table (t := 1526) rfl (by decide +kernel) (lo_about hSL hdd hi6 hc hs hiv kk)
theorem ix_65 {h : mm_H} (hx : ix h) : (mm_new h (.inr 9)).2.1 65 = .inr 9 := by
  show (if 65 = mm_ad h.1 then _ else _) = _
  rw [hx.1]; rfl
set_option maxRecDepth 100000 in
/-- THE LAW ON THE SMALL MACHINE -/
theorem law_ok (SL : Nat) (xs : Nat → Int32) (hL : SL ≤ 3072) : ∃ d : Nat, d ≤ 1000 ∧ mm_s SL xs (d + 1) 282 [.ref 0] mm_h0 (fun r _ => r = some (.int 1)) := by
  refine ⟨200, by decide, e_L_law rfl ?_⟩
  refine sp_new 3 rfl (by decide) (by decide) rfl ?_
  rw [show mm_ad mm_h0.1 = 2 from rfl]
  refine sp_dup 4 rfl rfl rfl ?_
  refine sc_I 7 rfl (by decide) rfl rfl rfl (by decide) (by decide) rfl ?_
  refine ct_X (by decide) (fun h hx => ?_)
  refine sp_astore_n 8 rfl rfl rfl ?_
  refine sp_new 11 rfl (by decide) (by decide) rfl ?_
  rw [hx.1, show mm_ad 58 = 65 from rfl]
  refine sp_dup 12 rfl rfl rfl ?_
  refine sc_I 15 rfl (by decide) rfl (ix_65 hx) rfl (by decide) (by decide) rfl ?_
  refine ct_M (by decide) hx (fun h2 hiv => ?_)
  refine sp_astore_n 16 rfl rfl rfl ?_
  refine sp_iconst 17 rfl rfl ?_
  refine sp_istore_n 18 rfl rfl rfl ?_
  exact lo_loop hL (by decide) (by decide) (by decide) (SL + 6) 0 h2 (by decide) (by omega) hiv
