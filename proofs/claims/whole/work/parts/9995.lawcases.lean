/-! the law's cases -/
section LawC
variable {G : Gx} {i N : Nat} {σ : Hp} {S : Ab} {mk : Nat → Option Nat} {T : Nat} {v5 v6 : Value}
theorem lw_feed (hL : G.2.2.2.1 ≤ 3072) (hi : i + 6 ≤ G.2.2.2.1) (ih : LawOK G N (i + 6)) (hI : LI S σ mk T) (hT : T + (N + 1) * 2652510 + 2900000 < 2 ^ 31) : Wp G mL_law 100 196 (lwL i v5 v6) [] σ ((N + 1) * 24 + scC (mk 0)) ((N + 1) * 5022 + scS (mk 0)) lwQ := by
  obtain ⟨hV, hS, hM, hg⟩ := hI
  refine wp_aload_n (atd dLw2 0 rfl) rfl rfl ?_
  refine law_ld (j := 1) (n := 1) (by decide) (atd dLw2 1 rfl) (atd dLw2 2 rfl) (atd dLw2 3 rfl) (atd dLw2 4 rfl) (atd dLw2 5 rfl) hL (by omega) ?_
  refine law_ld (j := 2) (n := 2) (by decide) (atd dLw2 6 rfl) (atd dLw2 7 rfl) (atd dLw2 8 rfl) (atd dLw2 9 rfl) (atd dLw2 10 rfl) hL (by omega) ?_
  refine law_ld (j := 3) (n := 3) (by decide) (atd dLw2 11 rfl) (atd dLw2 12 rfl) (atd dLw2 13 rfl) (atd dLw2 14 rfl) (atd dLw2 15 rfl) hL (by omega) ?_
  refine law_ld (j := 4) (n := 4) (by decide) (atd dLw2 16 rfl) (atd dLw2 17 rfl) (atd dLw2 18 rfl) (atd dLw2 19 rfl) (atd dLw2 20 rfl) hL (by omega) ?_
  refine law_ld (j := 5) (n := 5) (by decide) (atd dLw2 21 rfl) (atd dLw2 22 rfl) (atd dLw2 23 rfl) (atd dLw2 24 rfl) (atd dLw2 25 rfl) hL (by omega) ?_
  refine law_cv (T := T) [_, _, _, _, _] (atd dLw2 26 rfl) iX11_feed lL_23 rfl rfl rfl hS.1.2.2.2 (VC.z (feed_V hV _ _ _ _ _) (by omega) (vX11_feed (by decide) hV hS)) (fun s2 mk2 T2 mc2 ms2 hk hT2 hS2 hV2 hc hs => ?_)
  refine wp_aload_n (atd dLw2 27 rfl) rfl rfl ?_
  refine law_ld (j := 1) (n := 1) (by decide) (atd dLw2 28 rfl) (atd dLw2 29 rfl) (atd dLw2 30 rfl) (atd dLw2 31 rfl) (atd dLw2 32 rfl) hL (by omega) ?_
  refine law_ld (j := 2) (n := 2) (by decide) (atd dLw2 33 rfl) (atd dLw2 34 rfl) (atd dLw2 35 rfl) (atd dLw2 36 rfl) (atd dLw2 37 rfl) hL (by omega) ?_
  refine law_ld (j := 3) (n := 3) (by decide) (atd dLw2 38 rfl) (atd dLw2 39 rfl) (atd dLw2 40 rfl) (atd dLw2 41 rfl) (atd dLw2 42 rfl) hL (by omega) ?_
  refine law_ld (j := 4) (n := 4) (by decide) (atd dLw2 43 rfl) (atd dLw2 44 rfl) (atd dLw2 45 rfl) (atd dLw2 46 rfl) (atd dLw2 47 rfl) hL (by omega) ?_
  refine law_ld (j := 5) (n := 5) (by decide) (atd dLw2 48 rfl) (atd dLw2 49 rfl) (atd dLw2 50 rfl) (atd dLw2 51 rfl) (atd dLw2 52 rfl) hL (by omega) ?_
  refine law_cz [_, _, _, _, _] (atd dLw2 53 rfl) iX12_feed lL_27 rfl rfl rfl (hM.fK hk) (fun _ h => zX12_feed (by decide) hV h) (fun s3 hM3 => ?_)
  exact law_eq (atd dLw2 54 rfl) (by decide) ih hV2 hS2 hM3 (by obtain ⟨g, hg⟩ := hg; exact ⟨g, (hk.2 103 (by decide) (by decide)).trans hg⟩) (by omega) hc hs
theorem lw_end (hL : G.2.2.2.1 ≤ 3072) (hi : i + 6 ≤ G.2.2.2.1) (ih : LawOK G N (i + 6)) (hI : LI S σ mk T) (hT : T + (N + 1) * 2652510 + 2900000 < 2 ^ 31) : Wp G mL_law 100 269 (lwL i v5 v6) [] σ ((N + 1) * 24 + scC (mk 0)) ((N + 1) * 5022 + scS (mk 0)) lwQ := by
  obtain ⟨hV, hS, hM, hg⟩ := hI
  refine wp_aload_n (atd dLw3 0 rfl) rfl rfl ?_
  refine law_ld (j := 1) (n := 1) (by decide) (atd dLw3 1 rfl) (atd dLw3 2 rfl) (atd dLw3 3 rfl) (atd dLw3 4 rfl) (atd dLw3 5 rfl) hL (by omega) ?_
  refine law_cv (T := T) [_] (atd dLw3 6 rfl) iX11_end lL_28 rfl rfl rfl hS.1.2.2.2 (VC.z (end_V hV _) (by omega) (vX11_end (by decide) hV hS)) (fun s2 mk2 T2 mc2 ms2 hk hT2 hS2 hV2 hc hs => ?_)
  refine wp_aload_n (atd dLw3 7 rfl) rfl rfl ?_
  refine law_ld (j := 1) (n := 1) (by decide) (atd dLw3 8 rfl) (atd dLw3 9 rfl) (atd dLw3 10 rfl) (atd dLw3 11 rfl) (atd dLw3 12 rfl) hL (by omega) ?_
  refine law_cz [_] (atd dLw3 13 rfl) iX12_end lL_31 rfl rfl rfl (hM.fK hk) (fun _ h => zX12_end (by decide) hV h) (fun s3 hM3 => ?_)
  exact law_eq (atd dLw3 14 rfl) (by decide) ih hV2 hS2 hM3 (by obtain ⟨g, hg⟩ := hg; exact ⟨g, (hk.2 103 (by decide) (by decide)).trans hg⟩) (by omega) hc hs
theorem lw_net (hL : G.2.2.2.1 ≤ 3072) (hi : i + 6 ≤ G.2.2.2.1) (ih : LawOK G N (i + 6)) (hI : LI S σ mk T) (hT : T + (N + 1) * 2652510 + 2900000 < 2 ^ 31) : Wp G mL_law 100 294 (lwL i v5 v6) [] σ ((N + 1) * 24 + scC (mk 0)) ((N + 1) * 5022 + scS (mk 0)) lwQ := by
  obtain ⟨hV, hS, hM, hg⟩ := hI
  refine wp_aload_n (atd dLw4 0 rfl) rfl rfl ?_
  refine law_cv (T := T) [] (atd dLw4 1 rfl) iX11_net lL_32 rfl rfl rfl hS.1.2.2.2 (VC.n (by omega) (vX11_net (by decide) hV hS)) (fun s2 mk2 T2 mc2 ms2 hk hT2 hS2 hV2 hc hs => ?_)
  refine wp_aload_n (atd dLw4 2 rfl) rfl rfl ?_
  refine law_cz [] (atd dLw4 3 rfl) iX12_net lL_36 rfl rfl rfl (hM.fK hk) (fun _ h => zX12_net (by decide) hV h) (fun s3 hM3 => ?_)
  exact law_eq (atd dLw4 4 rfl) (by decide) ih hV2 hS2 hM3 (by obtain ⟨g, hg⟩ := hg; exact ⟨g, (hk.2 103 (by decide) (by decide)).trans hg⟩) (by omega) hc hs
theorem lw_fault (hL : G.2.2.2.1 ≤ 3072) (hi : i + 6 ≤ G.2.2.2.1) (ih : LawOK G N (i + 6)) (hI : LI S σ mk T) (hT : T + (N + 1) * 2652510 + 2900000 < 2 ^ 31) : Wp G mL_law 100 307 (lwL i v5 v6) [] σ ((N + 1) * 24 + scC (mk 0)) ((N + 1) * 5022 + scS (mk 0)) lwQ := by
  obtain ⟨hV, hS, hM, hg⟩ := hI
  refine wp_aload_n (atd dLw5 0 rfl) rfl rfl ?_
  refine law_ld (j := 1) (n := 1) (by decide) (atd dLw5 1 rfl) (atd dLw5 2 rfl) (atd dLw5 3 rfl) (atd dLw5 4 rfl) (atd dLw5 5 rfl) hL (by omega) ?_
  refine law_cv (T := T) [_] (atd dLw5 6 rfl) iX11_fault lL_37 rfl rfl rfl hS.1.2.2.2 (VC.z hV (by omega) (vX11_fault (by decide) hV hS)) (fun s2 mk2 T2 mc2 ms2 hk hT2 hS2 hV2 hc hs => ?_)
  refine wp_aload_n (atd dLw5 7 rfl) rfl rfl ?_
  refine law_ld (j := 1) (n := 1) (by decide) (atd dLw5 8 rfl) (atd dLw5 9 rfl) (atd dLw5 10 rfl) (atd dLw5 11 rfl) (atd dLw5 12 rfl) hL (by omega) ?_
  refine law_cz [_] (atd dLw5 13 rfl) iX12_fault lL_40 rfl rfl rfl (hM.fK hk) (fun _ h => zX12_fault (by decide) hV h) (fun s3 hM3 => ?_)
  exact law_eq (atd dLw5 14 rfl) (by decide) ih hV2 hS2 hM3 (by obtain ⟨g, hg⟩ := hg; exact ⟨g, (hk.2 103 (by decide) (by decide)).trans hg⟩) (by omega) hc hs
theorem lw_about (hL : G.2.2.2.1 ≤ 3072) (hi : i + 6 ≤ G.2.2.2.1) (ih : LawOK G N (i + 6)) (hI : LI S σ mk T) (hT : T + (N + 1) * 2652510 + 2900000 < 2 ^ 31) : Wp G mL_law 100 332 (lwL i v5 v6) [] σ ((N + 1) * 24 + scC (mk 0)) ((N + 1) * 5022 + scS (mk 0)) lwQ := by
  obtain ⟨hV, hS, hM, hg⟩ := hI
  refine wp_aload_n (atd dLw6 0 rfl) rfl rfl ?_
  refine law_ld (j := 1) (n := 1) (by decide) (atd dLw6 1 rfl) (atd dLw6 2 rfl) (atd dLw6 3 rfl) (atd dLw6 4 rfl) (atd dLw6 5 rfl) hL (by omega) ?_
  refine law_cv (T := T) [_] (atd dLw6 6 rfl) iX11_about lL_41 rfl rfl rfl hS.1.2.2.2 (VC.z hV (by omega) (vX11_about (by decide) hV hS)) (fun s2 mk2 T2 mc2 ms2 hk hT2 hS2 hV2 hc hs => ?_)
  refine wp_aload_n (atd dLw6 7 rfl) rfl rfl ?_
  refine law_ld (j := 1) (n := 1) (by decide) (atd dLw6 8 rfl) (atd dLw6 9 rfl) (atd dLw6 10 rfl) (atd dLw6 11 rfl) (atd dLw6 12 rfl) hL (by omega) ?_
  refine law_cz [_] (atd dLw6 13 rfl) iX12_about lL_44 rfl rfl rfl (hM.fK hk) (fun _ h => zX12_about (by decide) hV h) (fun s3 hM3 => ?_)
  exact law_eq (atd dLw6 14 rfl) (by decide) ih hV2 hS2 hM3 (by obtain ⟨g, hg⟩ := hg; exact ⟨g, (hk.2 103 (by decide) (by decide)).trans hg⟩) (by omega) hc hs
theorem lw_near (hL : G.2.2.2.1 ≤ 3072) (hi : i + 6 ≤ G.2.2.2.1) (ih : LawOK G N (i + 6)) (hI : LI S σ mk T) (hT : T + (N + 1) * 2652510 + 2900000 < 2 ^ 31) : Wp G mL_law 100 357 (lwL i v5 v6) [] σ ((N + 1) * 24 + scC (mk 0)) ((N + 1) * 5022 + scS (mk 0)) lwQ := by
  obtain ⟨hV, hS, hM, hg⟩ := hI
  refine wp_aload_n (atd dLw7 0 rfl) rfl rfl ?_
  refine law_ld (j := 1) (n := 1) (by decide) (atd dLw7 1 rfl) (atd dLw7 2 rfl) (atd dLw7 3 rfl) (atd dLw7 4 rfl) (atd dLw7 5 rfl) hL (by omega) ?_
  refine law_cv (T := T) [_] (atd dLw7 6 rfl) iX11_near lL_45 rfl rfl rfl hS.1.2.2.2 (VC.z hV (by omega) (vX11_near (by decide) hV hS)) (fun s2 mk2 T2 mc2 ms2 hk hT2 hS2 hV2 hc hs => ?_)
  refine wp_aload_n (atd dLw7 7 rfl) rfl rfl ?_
  refine law_ld (j := 1) (n := 1) (by decide) (atd dLw7 8 rfl) (atd dLw7 9 rfl) (atd dLw7 10 rfl) (atd dLw7 11 rfl) (atd dLw7 12 rfl) hL (by omega) ?_
  refine law_cz [_] (atd dLw7 13 rfl) iX12_near lL_48 rfl rfl rfl (hM.fK hk) (fun _ h => zX12_near (by decide) hV h) (fun s3 hM3 => ?_)
  exact law_eq (atd dLw7 14 rfl) (by decide) ih hV2 hS2 hM3 (by obtain ⟨g, hg⟩ := hg; exact ⟨g, (hk.2 103 (by decide) (by decide)).trans hg⟩) (by omega) hc hs
theorem lw_goes (hL : G.2.2.2.1 ≤ 3072) (hi : i + 6 ≤ G.2.2.2.1) (ih : LawOK G N (i + 6)) (hI : LI S σ mk T) (hT : T + (N + 1) * 2652510 + 2900000 < 2 ^ 31) : Wp G mL_law 100 506 (lwL i v5 v6) [] σ ((N + 1) * 24 + scC (mk 0)) ((N + 1) * 5022 + scS (mk 0)) lwQ := by
  obtain ⟨hV, hS, hM, hg⟩ := hI
  refine wp_aload_n (atd dLw10 0 rfl) rfl rfl ?_
  refine law_ld (j := 1) (n := 1) (by decide) (atd dLw10 1 rfl) (atd dLw10 2 rfl) (atd dLw10 3 rfl) (atd dLw10 4 rfl) (atd dLw10 5 rfl) hL (by omega) ?_
  refine law_cv (T := T) [_] (atd dLw10 6 rfl) iX11_goes lL_62 rfl rfl rfl hS.1.2.2.2 (VC.z hV (by omega) (vX11_goes (by decide) hV hS)) (fun s2 mk2 T2 mc2 ms2 hk hT2 hS2 hV2 hc hs => ?_)
  refine wp_aload_n (atd dLw10 7 rfl) rfl rfl ?_
  refine law_ld (j := 1) (n := 1) (by decide) (atd dLw10 8 rfl) (atd dLw10 9 rfl) (atd dLw10 10 rfl) (atd dLw10 11 rfl) (atd dLw10 12 rfl) hL (by omega) ?_
  refine law_cz [_] (atd dLw10 13 rfl) iX12_goes lL_65 rfl rfl rfl (hM.fK hk) (fun _ h => zX12_goes (by decide) hV h) (fun s3 hM3 => ?_)
  exact law_eq (atd dLw10 14 rfl) (by decide) ih hV2 hS2 hM3 (by obtain ⟨g, hg⟩ := hg; exact ⟨g, (hk.2 103 (by decide) (by decide)).trans hg⟩) (by omega) hc hs
theorem lw_left (hL : G.2.2.2.1 ≤ 3072) (hi : i + 6 ≤ G.2.2.2.1) (ih : LawOK G N (i + 6)) (hI : LI S σ mk T) (hT : T + (N + 1) * 2652510 + 2900000 < 2 ^ 31) : Wp G mL_law 100 531 (lwL i v5 v6) [] σ ((N + 1) * 24 + scC (mk 0)) ((N + 1) * 5022 + scS (mk 0)) lwQ := by
  obtain ⟨hV, hS, hM, hg⟩ := hI
  refine wp_aload_n (atd dLw11 0 rfl) rfl rfl ?_
  refine law_cv (T := T) [] (atd dLw11 1 rfl) iX11_left lL_66 rfl rfl rfl hS.1.2.2.2 (VC.z hV (by omega) (vX11_left (by decide) hV hS)) (fun s2 mk2 T2 mc2 ms2 hk hT2 hS2 hV2 hc hs => ?_)
  refine wp_aload_n (atd dLw11 2 rfl) rfl rfl ?_
  refine law_cz [] (atd dLw11 3 rfl) iX12_left lL_69 rfl rfl rfl (hM.fK hk) (fun _ h => zX12_left (by decide) hV h) (fun s3 hM3 => ?_)
  exact law_eq (atd dLw11 4 rfl) (by decide) ih hV2 hS2 hM3 (by obtain ⟨g, hg⟩ := hg; exact ⟨g, (hk.2 103 (by decide) (by decide)).trans hg⟩) (by omega) hc hs
theorem lw_image (hL : G.2.2.2.1 ≤ 3072) (hi : i + 6 ≤ G.2.2.2.1) (ih : LawOK G N (i + 6)) (hI : LI S σ mk T) (hT : T + (N + 1) * 2652510 + 2900000 < 2 ^ 31) : Wp G mL_law 100 544 (lwL i v5 v6) [] σ ((N + 1) * 24 + scC (mk 0)) ((N + 1) * 5022 + scS (mk 0)) lwQ := by
  obtain ⟨hV, hS, hM, hg⟩ := hI
  refine wp_aload_n (atd dLw12 0 rfl) rfl rfl ?_
  refine law_ld (j := 1) (n := 1) (by decide) (atd dLw12 1 rfl) (atd dLw12 2 rfl) (atd dLw12 3 rfl) (atd dLw12 4 rfl) (atd dLw12 5 rfl) hL (by omega) ?_
  refine law_cv (T := T) [_] (atd dLw12 6 rfl) iX11_image lL_70 rfl rfl rfl hS.1.2.2.2 (VC.z hV (by omega) (vX11_image (by decide) hV hS)) (fun s2 mk2 T2 mc2 ms2 hk hT2 hS2 hV2 hc hs => ?_)
  refine wp_aload_n (atd dLw12 7 rfl) rfl rfl ?_
  refine law_ld (j := 1) (n := 1) (by decide) (atd dLw12 8 rfl) (atd dLw12 9 rfl) (atd dLw12 10 rfl) (atd dLw12 11 rfl) (atd dLw12 12 rfl) hL (by omega) ?_
  refine law_cz [_] (atd dLw12 13 rfl) iX12_image lL_73 rfl rfl rfl (hM.fK hk) (fun _ h => zX12_image (by decide) hV h) (fun s3 hM3 => ?_)
  exact law_eq (atd dLw12 14 rfl) (by decide) ih hV2 hS2 hM3 (by obtain ⟨g, hg⟩ := hg; exact ⟨g, (hk.2 103 (by decide) (by decide)).trans hg⟩) (by omega) hc hs
theorem lw_fewest (hL : G.2.2.2.1 ≤ 3072) (hi : i + 6 ≤ G.2.2.2.1) (ih : LawOK G N (i + 6)) (hI : LI S σ mk T) (hT : T + (N + 1) * 2652510 + 2900000 < 2 ^ 31) : Wp G mL_law 100 569 (lwL i v5 v6) [] σ ((N + 1) * 24 + scC (mk 0)) ((N + 1) * 5022 + scS (mk 0)) lwQ := by
  obtain ⟨hV, hS, hM, hg⟩ := hI
  refine wp_aload_n (atd dLw13 0 rfl) rfl rfl ?_
  refine law_ld (j := 1) (n := 1) (by decide) (atd dLw13 1 rfl) (atd dLw13 2 rfl) (atd dLw13 3 rfl) (atd dLw13 4 rfl) (atd dLw13 5 rfl) hL (by omega) ?_
  refine law_cv (T := T) [_] (atd dLw13 6 rfl) iX11_fewest lL_74 rfl rfl rfl hS.1.2.2.2 (VC.e hV (by omega) (by decide) (by decide) (vX11_fewest (by decide) hV hS (by omega))) (fun s2 mk2 T2 mc2 ms2 hk hT2 hS2 hV2 hc hs => ?_)
  refine wp_aload_n (atd dLw13 7 rfl) rfl rfl ?_
  refine law_ld (j := 1) (n := 1) (by decide) (atd dLw13 8 rfl) (atd dLw13 9 rfl) (atd dLw13 10 rfl) (atd dLw13 11 rfl) (atd dLw13 12 rfl) hL (by omega) ?_
  refine law_cz [_] (atd dLw13 13 rfl) iX12_fewest lL_77 rfl rfl rfl (hM.fK hk) (fun _ h => zX12_fewest (by decide) hV h) (fun s3 hM3 => ?_)
  exact law_eq (atd dLw13 14 rfl) (by decide) ih hV2 hS2 hM3 (by obtain ⟨g, hg⟩ := hg; exact ⟨g, (hk.2 103 (by decide) (by decide)).trans hg⟩) (by omega) hc hs
theorem lw_time (hL : G.2.2.2.1 ≤ 3072) (hi : i + 6 ≤ G.2.2.2.1) (ih : LawOK G N (i + 6)) (hI : LI S σ mk T) (hT : T + (N + 1) * 2652510 + 2900000 < 2 ^ 31) : Wp G mL_law 100 594 (lwL i v5 v6) [] σ ((N + 1) * 24 + scC (mk 0)) ((N + 1) * 5022 + scS (mk 0)) lwQ := by
  obtain ⟨hV, hS, hM, hg⟩ := hI
  refine wp_aload_n (atd dLw14 0 rfl) rfl rfl ?_
  refine law_ld (j := 1) (n := 1) (by decide) (atd dLw14 1 rfl) (atd dLw14 2 rfl) (atd dLw14 3 rfl) (atd dLw14 4 rfl) (atd dLw14 5 rfl) hL (by omega) ?_
  refine law_ld (j := 2) (n := 2) (by decide) (atd dLw14 6 rfl) (atd dLw14 7 rfl) (atd dLw14 8 rfl) (atd dLw14 9 rfl) (atd dLw14 10 rfl) hL (by omega) ?_
  refine law_cv (T := T) [_, _] (atd dLw14 11 rfl) iX11_time lL_78 rfl rfl rfl hS.1.2.2.2 (VC.e hV (by omega) (by decide) (by decide) (vX11_time (by decide) hV hS (by omega))) (fun s2 mk2 T2 mc2 ms2 hk hT2 hS2 hV2 hc hs => ?_)
  refine wp_aload_n (atd dLw14 12 rfl) rfl rfl ?_
  refine law_ld (j := 1) (n := 1) (by decide) (atd dLw14 13 rfl) (atd dLw14 14 rfl) (atd dLw14 15 rfl) (atd dLw14 16 rfl) (atd dLw14 17 rfl) hL (by omega) ?_
  refine law_ld (j := 2) (n := 2) (by decide) (atd dLw14 18 rfl) (atd dLw14 19 rfl) (atd dLw14 20 rfl) (atd dLw14 21 rfl) (atd dLw14 22 rfl) hL (by omega) ?_
  refine law_cz [_, _] (atd dLw14 23 rfl) iX12_time lL_81 rfl rfl rfl (hM.fK hk) (fun _ h => zX12_time (by decide) hV h) (fun s3 hM3 => ?_)
  exact law_eq (atd dLw14 24 rfl) (by decide) ih hV2 hS2 hM3 (by obtain ⟨g, hg⟩ := hg; exact ⟨g, (hk.2 103 (by decide) (by decide)).trans hg⟩) (by omega) hc hs
theorem lw_start (hL : G.2.2.2.1 ≤ 3072) (hi : i + 6 ≤ G.2.2.2.1) (ih : LawOK G N (i + 6)) (hI : LI S σ mk T) (hT : T + (N + 1) * 2652510 + 2900000 < 2 ^ 31) : Wp G mL_law 100 631 (lwL i v5 v6) [] σ ((N + 1) * 24 + scC (mk 0)) ((N + 1) * 5022 + scS (mk 0)) lwQ := by
  obtain ⟨hV, hS, hM, hg⟩ := hI
  refine wp_aload_n (atd dLw15 0 rfl) rfl rfl ?_
  refine law_ld (j := 1) (n := 1) (by decide) (atd dLw15 1 rfl) (atd dLw15 2 rfl) (atd dLw15 3 rfl) (atd dLw15 4 rfl) (atd dLw15 5 rfl) hL (by omega) ?_
  refine law_ld (j := 2) (n := 2) (by decide) (atd dLw15 6 rfl) (atd dLw15 7 rfl) (atd dLw15 8 rfl) (atd dLw15 9 rfl) (atd dLw15 10 rfl) hL (by omega) ?_
  refine law_ld (j := 3) (n := 3) (by decide) (atd dLw15 11 rfl) (atd dLw15 12 rfl) (atd dLw15 13 rfl) (atd dLw15 14 rfl) (atd dLw15 15 rfl) hL (by omega) ?_
  refine law_cv (T := T) [_, _, _] (atd dLw15 16 rfl) iX11_start lL_82 rfl rfl rfl hS.1.2.2.2 (VC.e hV (by omega) (by decide) (by decide) (vX11_start (by decide) hV hS (by omega))) (fun s2 mk2 T2 mc2 ms2 hk hT2 hS2 hV2 hc hs => ?_)
  refine wp_aload_n (atd dLw15 17 rfl) rfl rfl ?_
  refine law_ld (j := 1) (n := 1) (by decide) (atd dLw15 18 rfl) (atd dLw15 19 rfl) (atd dLw15 20 rfl) (atd dLw15 21 rfl) (atd dLw15 22 rfl) hL (by omega) ?_
  refine law_ld (j := 2) (n := 2) (by decide) (atd dLw15 23 rfl) (atd dLw15 24 rfl) (atd dLw15 25 rfl) (atd dLw15 26 rfl) (atd dLw15 27 rfl) hL (by omega) ?_
  refine law_ld (j := 3) (n := 3) (by decide) (atd dLw15 28 rfl) (atd dLw15 29 rfl) (atd dLw15 30 rfl) (atd dLw15 31 rfl) (atd dLw15 32 rfl) hL (by omega) ?_
  refine law_cz [_, _, _] (atd dLw15 33 rfl) iX12_start lL_86 rfl rfl rfl (hM.fK hk) (fun _ h => zX12_start (by decide) hV h) (fun s3 hM3 => ?_)
  exact law_eq (atd dLw15 34 rfl) (by decide) ih hV2 hS2 hM3 (by obtain ⟨g, hg⟩ := hg; exact ⟨g, (hk.2 103 (by decide) (by decide)).trans hg⟩) (by omega) hc hs
theorem lw_sure (hL : G.2.2.2.1 ≤ 3072) (hi : i + 6 ≤ G.2.2.2.1) (ih : LawOK G N (i + 6)) (hI : LI S σ mk T) (hT : T + (N + 1) * 2652510 + 2900000 < 2 ^ 31) : Wp G mL_law 100 680 (lwL i v5 v6) [] σ ((N + 1) * 24 + scC (mk 0)) ((N + 1) * 5022 + scS (mk 0)) lwQ := by
  obtain ⟨hV, hS, hM, hg⟩ := hI
  refine wp_aload_n (atd dLw16 0 rfl) rfl rfl ?_
  refine law_ld (j := 1) (n := 1) (by decide) (atd dLw16 1 rfl) (atd dLw16 2 rfl) (atd dLw16 3 rfl) (atd dLw16 4 rfl) (atd dLw16 5 rfl) hL (by omega) ?_
  refine law_ld (j := 2) (n := 2) (by decide) (atd dLw16 6 rfl) (atd dLw16 7 rfl) (atd dLw16 8 rfl) (atd dLw16 9 rfl) (atd dLw16 10 rfl) hL (by omega) ?_
  refine law_ld (j := 3) (n := 3) (by decide) (atd dLw16 11 rfl) (atd dLw16 12 rfl) (atd dLw16 13 rfl) (atd dLw16 14 rfl) (atd dLw16 15 rfl) hL (by omega) ?_
  refine law_ld (j := 4) (n := 4) (by decide) (atd dLw16 16 rfl) (atd dLw16 17 rfl) (atd dLw16 18 rfl) (atd dLw16 19 rfl) (atd dLw16 20 rfl) hL (by omega) ?_
  refine law_cv (T := T) [_, _, _, _] (atd dLw16 21 rfl) iX11_sure lL_87 rfl rfl rfl hS.1.2.2.2 (VC.e hV (by omega) (by decide) (by decide) (vX11_sure (by decide) hV hS (by omega))) (fun s2 mk2 T2 mc2 ms2 hk hT2 hS2 hV2 hc hs => ?_)
  refine wp_aload_n (atd dLw16 22 rfl) rfl rfl ?_
  refine law_ld (j := 1) (n := 1) (by decide) (atd dLw16 23 rfl) (atd dLw16 24 rfl) (atd dLw16 25 rfl) (atd dLw16 26 rfl) (atd dLw16 27 rfl) hL (by omega) ?_
  refine law_ld (j := 2) (n := 2) (by decide) (atd dLw16 28 rfl) (atd dLw16 29 rfl) (atd dLw16 30 rfl) (atd dLw16 31 rfl) (atd dLw16 32 rfl) hL (by omega) ?_
  refine law_ld (j := 3) (n := 3) (by decide) (atd dLw16 33 rfl) (atd dLw16 34 rfl) (atd dLw16 35 rfl) (atd dLw16 36 rfl) (atd dLw16 37 rfl) hL (by omega) ?_
  refine law_ld (j := 4) (n := 4) (by decide) (atd dLw16 38 rfl) (atd dLw16 39 rfl) (atd dLw16 40 rfl) (atd dLw16 41 rfl) (atd dLw16 42 rfl) hL (by omega) ?_
  refine law_cz [_, _, _, _] (atd dLw16 43 rfl) iX12_sure lL_91 rfl rfl rfl (hM.fK hk) (fun _ h => zX12_sure (by decide) hV h) (fun s3 hM3 => ?_)
  exact law_eq (atd dLw16 44 rfl) (by decide) ih hV2 hS2 hM3 (by obtain ⟨g, hg⟩ := hg; exact ⟨g, (hk.2 103 (by decide) (by decide)).trans hg⟩) (by omega) hc hs
theorem lw_refusals (hL : G.2.2.2.1 ≤ 3072) (hi : i + 6 ≤ G.2.2.2.1) (ih : LawOK G N (i + 6)) (hI : LI S σ mk T) (hT : T + (N + 1) * 2652510 + 2900000 < 2 ^ 31) : Wp G mL_law 100 741 (lwL i v5 v6) [] σ ((N + 1) * 24 + scC (mk 0)) ((N + 1) * 5022 + scS (mk 0)) lwQ := by
  obtain ⟨hV, hS, hM, hg⟩ := hI
  refine wp_aload_n (atd dLw17 0 rfl) rfl rfl ?_
  refine law_ld (j := 1) (n := 1) (by decide) (atd dLw17 1 rfl) (atd dLw17 2 rfl) (atd dLw17 3 rfl) (atd dLw17 4 rfl) (atd dLw17 5 rfl) hL (by omega) ?_
  refine law_ld (j := 2) (n := 2) (by decide) (atd dLw17 6 rfl) (atd dLw17 7 rfl) (atd dLw17 8 rfl) (atd dLw17 9 rfl) (atd dLw17 10 rfl) hL (by omega) ?_
  refine law_cv (T := T) [_, _] (atd dLw17 11 rfl) iX11_refusals lL_92 rfl rfl rfl hS.1.2.2.2 (VC.e hV (by omega) (by decide) (by decide) (vX11_refusals (by decide) hV hS (by omega))) (fun s2 mk2 T2 mc2 ms2 hk hT2 hS2 hV2 hc hs => ?_)
  refine wp_aload_n (atd dLw17 12 rfl) rfl rfl ?_
  refine law_ld (j := 1) (n := 1) (by decide) (atd dLw17 13 rfl) (atd dLw17 14 rfl) (atd dLw17 15 rfl) (atd dLw17 16 rfl) (atd dLw17 17 rfl) hL (by omega) ?_
  refine law_ld (j := 2) (n := 2) (by decide) (atd dLw17 18 rfl) (atd dLw17 19 rfl) (atd dLw17 20 rfl) (atd dLw17 21 rfl) (atd dLw17 22 rfl) hL (by omega) ?_
  refine law_cz [_, _] (atd dLw17 23 rfl) iX12_refusals lL_95 rfl rfl rfl (hM.fK hk) (fun _ h => zX12_refusals (by decide) hV h) (fun s3 hM3 => ?_)
  exact law_eq (atd dLw17 24 rfl) (by decide) ih hV2 hS2 hM3 (by obtain ⟨g, hg⟩ := hg; exact ⟨g, (hk.2 103 (by decide) (by decide)).trans hg⟩) (by omega) hc hs
theorem lw_refusal (hL : G.2.2.2.1 ≤ 3072) (hi : i + 6 ≤ G.2.2.2.1) (ih : LawOK G N (i + 6)) (hI : LI S σ mk T) (hT : T + (N + 1) * 2652510 + 2900000 < 2 ^ 31) : Wp G mL_law 100 778 (lwL i v5 v6) [] σ ((N + 1) * 24 + scC (mk 0)) ((N + 1) * 5022 + scS (mk 0)) lwQ := by
  obtain ⟨hV, hS, hM, hg⟩ := hI
  refine wp_aload_n (atd dLw18 0 rfl) rfl rfl ?_
  refine law_ld (j := 1) (n := 1) (by decide) (atd dLw18 1 rfl) (atd dLw18 2 rfl) (atd dLw18 3 rfl) (atd dLw18 4 rfl) (atd dLw18 5 rfl) hL (by omega) ?_
  refine law_ld (j := 2) (n := 2) (by decide) (atd dLw18 6 rfl) (atd dLw18 7 rfl) (atd dLw18 8 rfl) (atd dLw18 9 rfl) (atd dLw18 10 rfl) hL (by omega) ?_
  refine law_ld (j := 3) (n := 3) (by decide) (atd dLw18 11 rfl) (atd dLw18 12 rfl) (atd dLw18 13 rfl) (atd dLw18 14 rfl) (atd dLw18 15 rfl) hL (by omega) ?_
  refine law_ld (j := 4) (n := 4) (by decide) (atd dLw18 16 rfl) (atd dLw18 17 rfl) (atd dLw18 18 rfl) (atd dLw18 19 rfl) (atd dLw18 20 rfl) hL (by omega) ?_
  refine law_cv (T := T) [_, _, _, _] (atd dLw18 21 rfl) iX11_refusal lL_96 rfl rfl rfl hS.1.2.2.2 (VC.e hV (by omega) (by decide) (by decide) (vX11_refusal (by decide) hV hS (by omega))) (fun s2 mk2 T2 mc2 ms2 hk hT2 hS2 hV2 hc hs => ?_)
  refine wp_aload_n (atd dLw18 22 rfl) rfl rfl ?_
  refine law_ld (j := 1) (n := 1) (by decide) (atd dLw18 23 rfl) (atd dLw18 24 rfl) (atd dLw18 25 rfl) (atd dLw18 26 rfl) (atd dLw18 27 rfl) hL (by omega) ?_
  refine law_ld (j := 2) (n := 2) (by decide) (atd dLw18 28 rfl) (atd dLw18 29 rfl) (atd dLw18 30 rfl) (atd dLw18 31 rfl) (atd dLw18 32 rfl) hL (by omega) ?_
  refine law_ld (j := 3) (n := 3) (by decide) (atd dLw18 33 rfl) (atd dLw18 34 rfl) (atd dLw18 35 rfl) (atd dLw18 36 rfl) (atd dLw18 37 rfl) hL (by omega) ?_
  refine law_ld (j := 4) (n := 4) (by decide) (atd dLw18 38 rfl) (atd dLw18 39 rfl) (atd dLw18 40 rfl) (atd dLw18 41 rfl) (atd dLw18 42 rfl) hL (by omega) ?_
  refine law_cz [_, _, _, _] (atd dLw18 43 rfl) iX12_refusal lL_99 rfl rfl rfl (hM.fK hk) (fun _ h => zX12_refusal (by decide) hV h) (fun s3 hM3 => ?_)
  exact law_eq (atd dLw18 44 rfl) (by decide) ih hV2 hS2 hM3 (by obtain ⟨g, hg⟩ := hg; exact ⟨g, (hk.2 103 (by decide) (by decide)).trans hg⟩) (by omega) hc hs
theorem lw_trial (hL : G.2.2.2.1 ≤ 3072) (hi : i + 6 ≤ G.2.2.2.1) (ih : LawOK G N (i + 6)) (hI : LI S σ mk T) (hT : T + (N + 1) * 2652510 + 2900000 < 2 ^ 31) : Wp G mL_law 100 839 (lwL i v5 v6) [] σ ((N + 1) * 24 + scC (mk 0)) ((N + 1) * 5022 + scS (mk 0)) lwQ := by
  obtain ⟨hV, hS, hM, hg⟩ := hI
  refine wp_aload_n (atd dLw19 0 rfl) rfl rfl ?_
  refine law_ld (j := 1) (n := 1) (by decide) (atd dLw19 1 rfl) (atd dLw19 2 rfl) (atd dLw19 3 rfl) (atd dLw19 4 rfl) (atd dLw19 5 rfl) hL (by omega) ?_
  refine law_ld (j := 2) (n := 2) (by decide) (atd dLw19 6 rfl) (atd dLw19 7 rfl) (atd dLw19 8 rfl) (atd dLw19 9 rfl) (atd dLw19 10 rfl) hL (by omega) ?_
  refine law_ld (j := 3) (n := 3) (by decide) (atd dLw19 11 rfl) (atd dLw19 12 rfl) (atd dLw19 13 rfl) (atd dLw19 14 rfl) (atd dLw19 15 rfl) hL (by omega) ?_
  refine law_cv (T := T) [_, _, _] (atd dLw19 16 rfl) iX11_trial lL_100 rfl rfl rfl hS.1.2.2.2 (VC.e hV (by omega) (by decide) (by decide) (vX11_trial (by decide) hV hS (by omega))) (fun s2 mk2 T2 mc2 ms2 hk hT2 hS2 hV2 hc hs => ?_)
  refine wp_aload_n (atd dLw19 17 rfl) rfl rfl ?_
  refine law_ld (j := 1) (n := 1) (by decide) (atd dLw19 18 rfl) (atd dLw19 19 rfl) (atd dLw19 20 rfl) (atd dLw19 21 rfl) (atd dLw19 22 rfl) hL (by omega) ?_
  refine law_ld (j := 2) (n := 2) (by decide) (atd dLw19 23 rfl) (atd dLw19 24 rfl) (atd dLw19 25 rfl) (atd dLw19 26 rfl) (atd dLw19 27 rfl) hL (by omega) ?_
  refine law_ld (j := 3) (n := 3) (by decide) (atd dLw19 28 rfl) (atd dLw19 29 rfl) (atd dLw19 30 rfl) (atd dLw19 31 rfl) (atd dLw19 32 rfl) hL (by omega) ?_
  refine law_cz [_, _, _] (atd dLw19 33 rfl) iX12_trial lL_103 rfl rfl rfl (hM.fK hk) (fun _ h => zX12_trial (by decide) hV h) (fun s3 hM3 => ?_)
  exact law_eq (atd dLw19 34 rfl) (by decide) ih hV2 hS2 hM3 (by obtain ⟨g, hg⟩ := hg; exact ⟨g, (hk.2 103 (by decide) (by decide)).trans hg⟩) (by omega) hc hs
theorem lw_helps (hL : G.2.2.2.1 ≤ 3072) (hi : i + 6 ≤ G.2.2.2.1) (ih : LawOK G N (i + 6)) (hI : LI S σ mk T) (hT : T + (N + 1) * 2652510 + 2900000 < 2 ^ 31) : Wp G mL_law 100 888 (lwL i v5 v6) [] σ ((N + 1) * 24 + scC (mk 0)) ((N + 1) * 5022 + scS (mk 0)) lwQ := by
  obtain ⟨hV, hS, hM, hg⟩ := hI
  refine wp_aload_n (atd dLw20 0 rfl) rfl rfl ?_
  refine law_ld (j := 1) (n := 1) (by decide) (atd dLw20 1 rfl) (atd dLw20 2 rfl) (atd dLw20 3 rfl) (atd dLw20 4 rfl) (atd dLw20 5 rfl) hL (by omega) ?_
  refine law_ld (j := 2) (n := 2) (by decide) (atd dLw20 6 rfl) (atd dLw20 7 rfl) (atd dLw20 8 rfl) (atd dLw20 9 rfl) (atd dLw20 10 rfl) hL (by omega) ?_
  refine law_cv (T := T) [_, _] (atd dLw20 11 rfl) iX11_helps lL_104 rfl rfl rfl hS.1.2.2.2 (VC.e hV (by omega) (by decide) (by decide) (vX11_helps (by decide) hV hS (by omega))) (fun s2 mk2 T2 mc2 ms2 hk hT2 hS2 hV2 hc hs => ?_)
  refine wp_aload_n (atd dLw20 12 rfl) rfl rfl ?_
  refine law_ld (j := 1) (n := 1) (by decide) (atd dLw20 13 rfl) (atd dLw20 14 rfl) (atd dLw20 15 rfl) (atd dLw20 16 rfl) (atd dLw20 17 rfl) hL (by omega) ?_
  refine law_ld (j := 2) (n := 2) (by decide) (atd dLw20 18 rfl) (atd dLw20 19 rfl) (atd dLw20 20 rfl) (atd dLw20 21 rfl) (atd dLw20 22 rfl) hL (by omega) ?_
  refine law_cz [_, _] (atd dLw20 23 rfl) iX12_helps lL_107 rfl rfl rfl (hM.fK hk) (fun _ h => zX12_helps (by decide) hV h) (fun s3 hM3 => ?_)
  exact law_eq (atd dLw20 24 rfl) (by decide) ih hV2 hS2 hM3 (by obtain ⟨g, hg⟩ := hg; exact ⟨g, (hk.2 103 (by decide) (by decide)).trans hg⟩) (by omega) hc hs
theorem lw_symmetries (hL : G.2.2.2.1 ≤ 3072) (hi : i + 6 ≤ G.2.2.2.1) (ih : LawOK G N (i + 6)) (hI : LI S σ mk T) (hT : T + (N + 1) * 2652510 + 2900000 < 2 ^ 31) : Wp G mL_law 100 925 (lwL i v5 v6) [] σ ((N + 1) * 24 + scC (mk 0)) ((N + 1) * 5022 + scS (mk 0)) lwQ := by
  obtain ⟨hV, hS, hM, hg⟩ := hI
  refine wp_aload_n (atd dLw21 0 rfl) rfl rfl ?_
  refine law_cv (T := T) [] (atd dLw21 1 rfl) iX11_symmetries lL_108 rfl rfl rfl hS.1.2.2.2 (VC.z hV (by omega) (vX11_symmetries (by decide) hV hS)) (fun s2 mk2 T2 mc2 ms2 hk hT2 hS2 hV2 hc hs => ?_)
  refine wp_aload_n (atd dLw21 2 rfl) rfl rfl ?_
  refine law_cz [] (atd dLw21 3 rfl) iX12_symmetries lL_111 rfl rfl rfl (hM.fK hk) (fun _ h => zX12_symmetries (by decide) hV h) (fun s3 hM3 => ?_)
  exact law_eq (atd dLw21 4 rfl) (by decide) ih hV2 hS2 hM3 (by obtain ⟨g, hg⟩ := hg; exact ⟨g, (hk.2 103 (by decide) (by decide)).trans hg⟩) (by omega) hc hs
theorem lw_alike (hL : G.2.2.2.1 ≤ 3072) (hi : i + 6 ≤ G.2.2.2.1) (ih : LawOK G N (i + 6)) (hI : LI S σ mk T) (hT : T + (N + 1) * 2652510 + 2900000 < 2 ^ 31) : Wp G mL_law 100 938 (lwL i v5 v6) [] σ ((N + 1) * 24 + scC (mk 0)) ((N + 1) * 5022 + scS (mk 0)) lwQ := by
  obtain ⟨hV, hS, hM, hg⟩ := hI
  refine wp_aload_n (atd dLw22 0 rfl) rfl rfl ?_
  refine law_ld (j := 1) (n := 1) (by decide) (atd dLw22 1 rfl) (atd dLw22 2 rfl) (atd dLw22 3 rfl) (atd dLw22 4 rfl) (atd dLw22 5 rfl) hL (by omega) ?_
  refine law_cv (T := T) [_] (atd dLw22 6 rfl) iX11_alike lL_112 rfl rfl rfl hS.1.2.2.2 (VC.z hV (by omega) (vX11_alike (by decide) hV hS)) (fun s2 mk2 T2 mc2 ms2 hk hT2 hS2 hV2 hc hs => ?_)
  refine wp_aload_n (atd dLw22 7 rfl) rfl rfl ?_
  refine law_ld (j := 1) (n := 1) (by decide) (atd dLw22 8 rfl) (atd dLw22 9 rfl) (atd dLw22 10 rfl) (atd dLw22 11 rfl) (atd dLw22 12 rfl) hL (by omega) ?_
  refine law_cz [_] (atd dLw22 13 rfl) iX12_alike lL_115 rfl rfl rfl (hM.fK hk) (fun _ h => zX12_alike (by decide) hV h) (fun s3 hM3 => ?_)
  exact law_eq (atd dLw22 14 rfl) (by decide) ih hV2 hS2 hM3 (by obtain ⟨g, hg⟩ := hg; exact ⟨g, (hk.2 103 (by decide) (by decide)).trans hg⟩) (by omega) hc hs
theorem lw_guard (hL : G.2.2.2.1 ≤ 3072) (hi : i + 6 ≤ G.2.2.2.1) (ih : LawOK G N (i + 6)) (hI : LI S σ mk T) (hT : T + (N + 1) * 2652510 + 2900000 < 2 ^ 31) : Wp G mL_law 100 963 (lwL i v5 v6) [] σ ((N + 1) * 24 + scC (mk 0)) ((N + 1) * 5022 + scS (mk 0)) lwQ := by
  obtain ⟨hV, hS, hM, hg⟩ := hI
  refine wp_aload_n (atd dLw23 0 rfl) rfl rfl ?_
  refine law_ld (j := 1) (n := 1) (by decide) (atd dLw23 1 rfl) (atd dLw23 2 rfl) (atd dLw23 3 rfl) (atd dLw23 4 rfl) (atd dLw23 5 rfl) hL (by omega) ?_
  refine law_cv (T := T) [_] (atd dLw23 6 rfl) iX11_guard lL_116 rfl rfl rfl hS.1.2.2.2 (VC.z hV (by omega) (vX11_guard (by decide) hV hS)) (fun s2 mk2 T2 mc2 ms2 hk hT2 hS2 hV2 hc hs => ?_)
  refine wp_aload_n (atd dLw23 7 rfl) rfl rfl ?_
  refine law_ld (j := 1) (n := 1) (by decide) (atd dLw23 8 rfl) (atd dLw23 9 rfl) (atd dLw23 10 rfl) (atd dLw23 11 rfl) (atd dLw23 12 rfl) hL (by omega) ?_
  refine law_cz [_] (atd dLw23 13 rfl) iX12_guard lL_119 rfl rfl rfl (hM.fK hk) (fun _ h => zX12_guard (by decide) hV h) (fun s3 hM3 => ?_)
  exact law_eq (atd dLw23 14 rfl) (by decide) ih hV2 hS2 hM3 (by obtain ⟨g, hg⟩ := hg; exact ⟨g, (hk.2 103 (by decide) (by decide)).trans hg⟩) (by omega) hc hs
theorem lw_guards (hL : G.2.2.2.1 ≤ 3072) (hi : i + 6 ≤ G.2.2.2.1) (ih : LawOK G N (i + 6)) (hI : LI S σ mk T) (hT : T + (N + 1) * 2652510 + 2900000 < 2 ^ 31) : Wp G mL_law 100 988 (lwL i v5 v6) [] σ ((N + 1) * 24 + scC (mk 0)) ((N + 1) * 5022 + scS (mk 0)) lwQ := by
  obtain ⟨hV, hS, hM, hg⟩ := hI
  refine wp_aload_n (atd dLw24 0 rfl) rfl rfl ?_
  refine law_ld (j := 1) (n := 1) (by decide) (atd dLw24 1 rfl) (atd dLw24 2 rfl) (atd dLw24 3 rfl) (atd dLw24 4 rfl) (atd dLw24 5 rfl) hL (by omega) ?_
  refine law_ld (j := 2) (n := 2) (by decide) (atd dLw24 6 rfl) (atd dLw24 7 rfl) (atd dLw24 8 rfl) (atd dLw24 9 rfl) (atd dLw24 10 rfl) hL (by omega) ?_
  refine law_ld (j := 3) (n := 3) (by decide) (atd dLw24 11 rfl) (atd dLw24 12 rfl) (atd dLw24 13 rfl) (atd dLw24 14 rfl) (atd dLw24 15 rfl) hL (by omega) ?_
  refine law_cv (T := T) [_, _, _] (atd dLw24 16 rfl) iX11_guards lL_120 rfl rfl rfl hS.1.2.2.2 (VC.z hV (by omega) (vX11_guards (by decide) hV hS)) (fun s2 mk2 T2 mc2 ms2 hk hT2 hS2 hV2 hc hs => ?_)
  refine wp_aload_n (atd dLw24 17 rfl) rfl rfl ?_
  refine law_ld (j := 1) (n := 1) (by decide) (atd dLw24 18 rfl) (atd dLw24 19 rfl) (atd dLw24 20 rfl) (atd dLw24 21 rfl) (atd dLw24 22 rfl) hL (by omega) ?_
  refine law_ld (j := 2) (n := 2) (by decide) (atd dLw24 23 rfl) (atd dLw24 24 rfl) (atd dLw24 25 rfl) (atd dLw24 26 rfl) (atd dLw24 27 rfl) hL (by omega) ?_
  refine law_ld (j := 3) (n := 3) (by decide) (atd dLw24 28 rfl) (atd dLw24 29 rfl) (atd dLw24 30 rfl) (atd dLw24 31 rfl) (atd dLw24 32 rfl) hL (by omega) ?_
  refine law_cz [_, _, _] (atd dLw24 33 rfl) iX12_guards lL_123 rfl rfl rfl (hM.fK hk) (fun _ h => zX12_guards (by decide) hV h) (fun s3 hM3 => ?_)
  exact law_eq (atd dLw24 34 rfl) (by decide) ih hV2 hS2 hM3 (by obtain ⟨g, hg⟩ := hg; exact ⟨g, (hk.2 103 (by decide) (by decide)).trans hg⟩) (by omega) hc hs
theorem lw_sweep (hL : G.2.2.2.1 ≤ 3072) (hi : i + 6 ≤ G.2.2.2.1) (ih : LawOK G N (i + 6)) (hI : LI S σ mk T) (hT : T + (N + 1) * 2652510 + 2900000 < 2 ^ 31) : Wp G mL_law 100 1037 (lwL i v5 v6) [] σ ((N + 1) * 24 + scC (mk 0)) ((N + 1) * 5022 + scS (mk 0)) lwQ := by
  obtain ⟨hV, hS, hM, hg⟩ := hI
  refine wp_aload_n (atd dLw25 0 rfl) rfl rfl ?_
  refine law_ld (j := 1) (n := 1) (by decide) (atd dLw25 1 rfl) (atd dLw25 2 rfl) (atd dLw25 3 rfl) (atd dLw25 4 rfl) (atd dLw25 5 rfl) hL (by omega) ?_
  refine law_cv (T := T) [_] (atd dLw25 6 rfl) iX11_sweep lL_124 rfl rfl rfl hS.1.2.2.2 (VC.s hV (by omega) (vX11_sweep (by decide) hV hS (by omega) _)) (fun s2 mk2 T2 mc2 ms2 hk hT2 hS2 hV2 hc hs => ?_)
  refine wp_aload_n (atd dLw25 7 rfl) rfl rfl ?_
  refine law_ld (j := 1) (n := 1) (by decide) (atd dLw25 8 rfl) (atd dLw25 9 rfl) (atd dLw25 10 rfl) (atd dLw25 11 rfl) (atd dLw25 12 rfl) hL (by omega) ?_
  refine law_cz [_] (atd dLw25 13 rfl) iX12_sweep lL_127 rfl rfl rfl (hM.fK hk) (fun _ h => zX12_sweep (by decide) hV h) (fun s3 hM3 => ?_)
  exact law_eq (atd dLw25 14 rfl) (by decide) ih hV2 hS2 hM3 (by obtain ⟨g, hg⟩ := hg; exact ⟨g, (hk.2 103 (by decide) (by decide)).trans hg⟩) (by omega) hc hs
theorem lw_swept (hL : G.2.2.2.1 ≤ 3072) (hi : i + 6 ≤ G.2.2.2.1) (ih : LawOK G N (i + 6)) (hI : LI S σ mk T) (hT : T + (N + 1) * 2652510 + 2900000 < 2 ^ 31) : Wp G mL_law 100 1062 (lwL i v5 v6) [] σ ((N + 1) * 24 + scC (mk 0)) ((N + 1) * 5022 + scS (mk 0)) lwQ := by
  obtain ⟨hV, hS, hM, hg⟩ := hI
  refine wp_aload_n (atd dLw26 0 rfl) rfl rfl ?_
  refine law_ld (j := 1) (n := 1) (by decide) (atd dLw26 1 rfl) (atd dLw26 2 rfl) (atd dLw26 3 rfl) (atd dLw26 4 rfl) (atd dLw26 5 rfl) hL (by omega) ?_
  refine law_ld (j := 2) (n := 2) (by decide) (atd dLw26 6 rfl) (atd dLw26 7 rfl) (atd dLw26 8 rfl) (atd dLw26 9 rfl) (atd dLw26 10 rfl) hL (by omega) ?_
  refine law_ld (j := 3) (n := 3) (by decide) (atd dLw26 11 rfl) (atd dLw26 12 rfl) (atd dLw26 13 rfl) (atd dLw26 14 rfl) (atd dLw26 15 rfl) hL (by omega) ?_
  refine law_cv (T := T) [_, _, _] (atd dLw26 16 rfl) iX11_swept lL_128 rfl rfl rfl hS.1.2.2.2 (VC.s hV (by omega) (vX11_swept (by decide) hV hS (by omega) _ _ _)) (fun s2 mk2 T2 mc2 ms2 hk hT2 hS2 hV2 hc hs => ?_)
  refine wp_aload_n (atd dLw26 17 rfl) rfl rfl ?_
  refine law_ld (j := 1) (n := 1) (by decide) (atd dLw26 18 rfl) (atd dLw26 19 rfl) (atd dLw26 20 rfl) (atd dLw26 21 rfl) (atd dLw26 22 rfl) hL (by omega) ?_
  refine law_ld (j := 2) (n := 2) (by decide) (atd dLw26 23 rfl) (atd dLw26 24 rfl) (atd dLw26 25 rfl) (atd dLw26 26 rfl) (atd dLw26 27 rfl) hL (by omega) ?_
  refine law_ld (j := 3) (n := 3) (by decide) (atd dLw26 28 rfl) (atd dLw26 29 rfl) (atd dLw26 30 rfl) (atd dLw26 31 rfl) (atd dLw26 32 rfl) hL (by omega) ?_
  refine law_cz [_, _, _] (atd dLw26 33 rfl) iX12_swept lL_131 rfl rfl rfl (hM.fK hk) (fun _ h => zX12_swept (by decide) hV h) (fun s3 hM3 => ?_)
  exact law_eq (atd dLw26 34 rfl) (by decide) ih hV2 hS2 hM3 (by obtain ⟨g, hg⟩ := hg; exact ⟨g, (hk.2 103 (by decide) (by decide)).trans hg⟩) (by omega) hc hs
theorem lw_begin (hL : G.2.2.2.1 ≤ 3072) (hi : i + 6 ≤ G.2.2.2.1) (ih : LawOK G N (i + 6)) (hI : LI S σ mk T) (hT : T + (N + 1) * 2652510 + 2900000 < 2 ^ 31) : Wp G mL_law 100 1111 (lwL i v5 v6) [] σ ((N + 1) * 24 + scC (mk 0)) ((N + 1) * 5022 + scS (mk 0)) lwQ := by
  obtain ⟨hV, hS, hM, hg⟩ := hI
  refine wp_aload_n (atd dLw27 0 rfl) rfl rfl ?_
  refine law_ld (j := 1) (n := 1) (by decide) (atd dLw27 1 rfl) (atd dLw27 2 rfl) (atd dLw27 3 rfl) (atd dLw27 4 rfl) (atd dLw27 5 rfl) hL (by omega) ?_
  refine law_ld (j := 2) (n := 2) (by decide) (atd dLw27 6 rfl) (atd dLw27 7 rfl) (atd dLw27 8 rfl) (atd dLw27 9 rfl) (atd dLw27 10 rfl) hL (by omega) ?_
  refine law_ld (j := 3) (n := 3) (by decide) (atd dLw27 11 rfl) (atd dLw27 12 rfl) (atd dLw27 13 rfl) (atd dLw27 14 rfl) (atd dLw27 15 rfl) hL (by omega) ?_
  refine law_ld (j := 4) (n := 4) (by decide) (atd dLw27 16 rfl) (atd dLw27 17 rfl) (atd dLw27 18 rfl) (atd dLw27 19 rfl) (atd dLw27 20 rfl) hL (by omega) ?_
  refine law_ld (j := 5) (n := 5) (by decide) (atd dLw27 21 rfl) (atd dLw27 22 rfl) (atd dLw27 23 rfl) (atd dLw27 24 rfl) (atd dLw27 25 rfl) hL (by omega) ?_
  refine law_cv (T := T) [_, _, _, _, _] (atd dLw27 26 rfl) iX11_begin lL_132 rfl rfl rfl hS.1.2.2.2 (VC.z (begin_V hV _ _ _ _ _) (by omega) (vX11_begin (by decide) hV hS)) (fun s2 mk2 T2 mc2 ms2 hk hT2 hS2 hV2 hc hs => ?_)
  refine wp_aload_n (atd dLw27 27 rfl) rfl rfl ?_
  refine law_ld (j := 1) (n := 1) (by decide) (atd dLw27 28 rfl) (atd dLw27 29 rfl) (atd dLw27 30 rfl) (atd dLw27 31 rfl) (atd dLw27 32 rfl) hL (by omega) ?_
  refine law_ld (j := 2) (n := 2) (by decide) (atd dLw27 33 rfl) (atd dLw27 34 rfl) (atd dLw27 35 rfl) (atd dLw27 36 rfl) (atd dLw27 37 rfl) hL (by omega) ?_
  refine law_ld (j := 3) (n := 3) (by decide) (atd dLw27 38 rfl) (atd dLw27 39 rfl) (atd dLw27 40 rfl) (atd dLw27 41 rfl) (atd dLw27 42 rfl) hL (by omega) ?_
  refine law_ld (j := 4) (n := 4) (by decide) (atd dLw27 43 rfl) (atd dLw27 44 rfl) (atd dLw27 45 rfl) (atd dLw27 46 rfl) (atd dLw27 47 rfl) hL (by omega) ?_
  refine law_ld (j := 5) (n := 5) (by decide) (atd dLw27 48 rfl) (atd dLw27 49 rfl) (atd dLw27 50 rfl) (atd dLw27 51 rfl) (atd dLw27 52 rfl) hL (by omega) ?_
  refine law_cz [_, _, _, _, _] (atd dLw27 53 rfl) iX12_begin lL_135 rfl rfl rfl (hM.fK hk) (fun _ h => zX12_begin (by decide) hV h) (fun s3 hM3 => ?_)
  exact law_eq (atd dLw27 54 rfl) (by decide) ih hV2 hS2 hM3 (by obtain ⟨g, hg⟩ := hg; exact ⟨g, (hk.2 103 (by decide) (by decide)).trans hg⟩) (by omega) hc hs
theorem lw_scene (hL : G.2.2.2.1 ≤ 3072) (hi : i + 6 ≤ G.2.2.2.1) (ih : LawOK G N (i + 6)) (hI : LI S σ mk T) (hT : T + (N + 1) * 2652510 + 2900000 < 2 ^ 31) : Wp G mL_law 100 1184 (lwL i v5 v6) [] σ ((N + 1) * 24 + scC (mk 0)) ((N + 1) * 5022 + scS (mk 0)) lwQ := by
  obtain ⟨hV, hS, hM, hg⟩ := hI
  refine wp_aload_n (atd dLw28 0 rfl) rfl rfl ?_
  refine law_ld (j := 1) (n := 1) (by decide) (atd dLw28 1 rfl) (atd dLw28 2 rfl) (atd dLw28 3 rfl) (atd dLw28 4 rfl) (atd dLw28 5 rfl) hL (by omega) ?_
  refine law_cv (T := T) [_] (atd dLw28 6 rfl) iX11_scene lL_136 rfl rfl rfl hS.1.2.2.2 (VC.e hV (by omega) (by decide) (by decide) (vX11_scene (by decide) hV hS (by omega))) (fun s2 mk2 T2 mc2 ms2 hk hT2 hS2 hV2 hc hs => ?_)
  refine wp_aload_n (atd dLw28 7 rfl) rfl rfl ?_
  refine law_ld (j := 1) (n := 1) (by decide) (atd dLw28 8 rfl) (atd dLw28 9 rfl) (atd dLw28 10 rfl) (atd dLw28 11 rfl) (atd dLw28 12 rfl) hL (by omega) ?_
  refine law_cz [_] (atd dLw28 13 rfl) iX12_scene lL_139 rfl rfl rfl (hM.fK hk) (fun _ h => zX12_scene (by decide) hV h) (fun s3 hM3 => ?_)
  exact law_eq (atd dLw28 14 rfl) (by decide) ih hV2 hS2 hM3 (by obtain ⟨g, hg⟩ := hg; exact ⟨g, (hk.2 103 (by decide) (by decide)).trans hg⟩) (by omega) hc hs
theorem lw_best (hL : G.2.2.2.1 ≤ 3072) (hi : i + 6 ≤ G.2.2.2.1) (ih : LawOK G N (i + 6)) (hI : LI S σ mk T) (hT : T + (N + 1) * 2652510 + 2900000 < 2 ^ 31) : Wp G mL_law 100 1209 (lwL i v5 v6) [] σ ((N + 1) * 24 + scC (mk 0)) ((N + 1) * 5022 + scS (mk 0)) lwQ := by
  obtain ⟨hV, hS, hM, hg⟩ := hI
  refine wp_aload_n (atd dLw29 0 rfl) rfl rfl ?_
  refine law_ld (j := 1) (n := 1) (by decide) (atd dLw29 1 rfl) (atd dLw29 2 rfl) (atd dLw29 3 rfl) (atd dLw29 4 rfl) (atd dLw29 5 rfl) hL (by omega) ?_
  refine law_cv (T := T) [_] (atd dLw29 6 rfl) iX11_best lL_140 rfl rfl rfl hS.1.2.2.2 (VC.e hV (by omega) (by decide) (by decide) (vX11_best (by decide) hV hS (by omega))) (fun s2 mk2 T2 mc2 ms2 hk hT2 hS2 hV2 hc hs => ?_)
  refine wp_aload_n (atd dLw29 7 rfl) rfl rfl ?_
  refine law_ld (j := 1) (n := 1) (by decide) (atd dLw29 8 rfl) (atd dLw29 9 rfl) (atd dLw29 10 rfl) (atd dLw29 11 rfl) (atd dLw29 12 rfl) hL (by omega) ?_
  refine law_cz [_] (atd dLw29 13 rfl) iX12_best lL_143 rfl rfl rfl (hM.fK hk) (fun _ h => zX12_best (by decide) hV h) (fun s3 hM3 => ?_)
  exact law_eq (atd dLw29 14 rfl) (by decide) ih hV2 hS2 hM3 (by obtain ⟨g, hg⟩ := hg; exact ⟨g, (hk.2 103 (by decide) (by decide)).trans hg⟩) (by omega) hc hs
theorem lw_safe (hL : G.2.2.2.1 ≤ 3072) (hi : i + 6 ≤ G.2.2.2.1) (ih : LawOK G N (i + 6)) (hI : LI S σ mk T) (hT : T + (N + 1) * 2652510 + 2900000 < 2 ^ 31) : Wp G mL_law 100 1234 (lwL i v5 v6) [] σ ((N + 1) * 24 + scC (mk 0)) ((N + 1) * 5022 + scS (mk 0)) lwQ := by
  obtain ⟨hV, hS, hM, hg⟩ := hI
  refine wp_aload_n (atd dLw30 0 rfl) rfl rfl ?_
  refine law_cv (T := T) [] (atd dLw30 1 rfl) iX11_safe lL_144 rfl rfl rfl hS.1.2.2.2 (VC.e hV (by omega) (by decide) (by decide) (vX11_safe (by decide) hV hS (by omega))) (fun s2 mk2 T2 mc2 ms2 hk hT2 hS2 hV2 hc hs => ?_)
  refine wp_aload_n (atd dLw30 2 rfl) rfl rfl ?_
  refine law_cz [] (atd dLw30 3 rfl) iX12_safe lL_147 rfl rfl rfl (hM.fK hk) (fun _ h => zX12_safe (by decide) hV h) (fun s3 hM3 => ?_)
  exact law_eq (atd dLw30 4 rfl) (by decide) ih hV2 hS2 hM3 (by obtain ⟨g, hg⟩ := hg; exact ⟨g, (hk.2 103 (by decide) (by decide)).trans hg⟩) (by omega) hc hs
theorem lw_hunt (hL : G.2.2.2.1 ≤ 3072) (hi : i + 6 ≤ G.2.2.2.1) (ih : LawOK G N (i + 6)) (hI : LI S σ mk T) (hT : T + (N + 1) * 2652510 + 2900000 < 2 ^ 31) : Wp G mL_law 100 1247 (lwL i v5 v6) [] σ ((N + 1) * 24 + scC (mk 0)) ((N + 1) * 5022 + scS (mk 0)) lwQ := by
  obtain ⟨hV, hS, hM, hg⟩ := hI
  refine wp_aload_n (atd dLw31 0 rfl) rfl rfl ?_
  refine law_ld (j := 1) (n := 1) (by decide) (atd dLw31 1 rfl) (atd dLw31 2 rfl) (atd dLw31 3 rfl) (atd dLw31 4 rfl) (atd dLw31 5 rfl) hL (by omega) ?_
  refine law_ld (j := 2) (n := 2) (by decide) (atd dLw31 6 rfl) (atd dLw31 7 rfl) (atd dLw31 8 rfl) (atd dLw31 9 rfl) (atd dLw31 10 rfl) hL (by omega) ?_
  refine law_ld (j := 3) (n := 3) (by decide) (atd dLw31 11 rfl) (atd dLw31 12 rfl) (atd dLw31 13 rfl) (atd dLw31 14 rfl) (atd dLw31 15 rfl) hL (by omega) ?_
  refine law_cv (T := T) [_, _, _] (atd dLw31 16 rfl) iX11_hunt lL_148 rfl rfl rfl hS.1.2.2.2 (VC.z (hunt_V hV _ _ _) (by omega) (vX11_hunt (by decide) hV hS (by omega))) (fun s2 mk2 T2 mc2 ms2 hk hT2 hS2 hV2 hc hs => ?_)
  refine wp_aload_n (atd dLw31 17 rfl) rfl rfl ?_
  refine law_ld (j := 1) (n := 1) (by decide) (atd dLw31 18 rfl) (atd dLw31 19 rfl) (atd dLw31 20 rfl) (atd dLw31 21 rfl) (atd dLw31 22 rfl) hL (by omega) ?_
  refine law_ld (j := 2) (n := 2) (by decide) (atd dLw31 23 rfl) (atd dLw31 24 rfl) (atd dLw31 25 rfl) (atd dLw31 26 rfl) (atd dLw31 27 rfl) hL (by omega) ?_
  refine law_ld (j := 3) (n := 3) (by decide) (atd dLw31 28 rfl) (atd dLw31 29 rfl) (atd dLw31 30 rfl) (atd dLw31 31 rfl) (atd dLw31 32 rfl) hL (by omega) ?_
  refine law_cz [_, _, _] (atd dLw31 33 rfl) iX12_hunt lL_152 rfl rfl rfl (hM.fK hk) (fun _ h => zX12_hunt (by decide) hV h) (fun s3 hM3 => ?_)
  exact law_eq (atd dLw31 34 rfl) (by decide) ih hV2 hS2 hM3 (by obtain ⟨g, hg⟩ := hg; exact ⟨g, (hk.2 103 (by decide) (by decide)).trans hg⟩) (by omega) hc hs
theorem lw_run (hL : G.2.2.2.1 ≤ 3072) (hi : i + 6 ≤ G.2.2.2.1) (ih : LawOK G N (i + 6)) (hI : LI S σ mk T) (hT : T + (N + 1) * 2652510 + 2900000 < 2 ^ 31) : Wp G mL_law 100 1296 (lwL i v5 v6) [] σ ((N + 1) * 24 + scC (mk 0)) ((N + 1) * 5022 + scS (mk 0)) lwQ := by
  obtain ⟨hV, hS, hM, hg⟩ := hI
  refine wp_aload_n (atd dLw32 0 rfl) rfl rfl ?_
  refine law_ld (j := 1) (n := 1) (by decide) (atd dLw32 1 rfl) (atd dLw32 2 rfl) (atd dLw32 3 rfl) (atd dLw32 4 rfl) (atd dLw32 5 rfl) hL (by omega) ?_
  refine law_cv (T := T) [_] (atd dLw32 6 rfl) iX11_run lL_153 rfl rfl rfl hS.1.2.2.2 (VC.z (run_V hV _) (by omega) (vX11_run (by decide) hV hS)) (fun s2 mk2 T2 mc2 ms2 hk hT2 hS2 hV2 hc hs => ?_)
  refine wp_aload_n (atd dLw32 7 rfl) rfl rfl ?_
  refine law_ld (j := 1) (n := 1) (by decide) (atd dLw32 8 rfl) (atd dLw32 9 rfl) (atd dLw32 10 rfl) (atd dLw32 11 rfl) (atd dLw32 12 rfl) hL (by omega) ?_
  refine law_cz [_] (atd dLw32 13 rfl) iX12_run lL_157 rfl rfl rfl (hM.fK hk) (fun _ h => zX12_run (by decide) hV h) (fun s3 hM3 => ?_)
  exact law_eq (atd dLw32 14 rfl) (by decide) ih hV2 hS2 hM3 (by obtain ⟨g, hg⟩ := hg; exact ⟨g, (hk.2 103 (by decide) (by decide)).trans hg⟩) (by omega) hc hs
theorem lw_play (hL : G.2.2.2.1 ≤ 3072) (hi : i + 6 ≤ G.2.2.2.1) (ih : LawOK G N (i + 6)) (hI : LI S σ mk T) (hT : T + (N + 1) * 2652510 + 2900000 < 2 ^ 31) : Wp G mL_law 100 1321 (lwL i v5 v6) [] σ ((N + 1) * 24 + scC (mk 0)) ((N + 1) * 5022 + scS (mk 0)) lwQ := by
  obtain ⟨hV, hS, hM, hg⟩ := hI
  refine wp_aload_n (atd dLw33 0 rfl) rfl rfl ?_
  refine law_ld (j := 1) (n := 1) (by decide) (atd dLw33 1 rfl) (atd dLw33 2 rfl) (atd dLw33 3 rfl) (atd dLw33 4 rfl) (atd dLw33 5 rfl) hL (by omega) ?_
  refine law_cv (T := T) [_] (atd dLw33 6 rfl) iX11_play lL_158 rfl rfl rfl hS.1.2.2.2 (VC.e (play_V hV _) (by omega) (by decide) (by decide) (vX11_play (by decide) hV hS (by omega))) (fun s2 mk2 T2 mc2 ms2 hk hT2 hS2 hV2 hc hs => ?_)
  refine wp_aload_n (atd dLw33 7 rfl) rfl rfl ?_
  refine law_ld (j := 1) (n := 1) (by decide) (atd dLw33 8 rfl) (atd dLw33 9 rfl) (atd dLw33 10 rfl) (atd dLw33 11 rfl) (atd dLw33 12 rfl) hL (by omega) ?_
  refine law_cz [_] (atd dLw33 13 rfl) iX12_play lL_161 rfl rfl rfl (hM.fK hk) (fun _ h => zX12_play (by decide) hV h) (fun s3 hM3 => ?_)
  exact law_eq (atd dLw33 14 rfl) (by decide) ih hV2 hS2 hM3 (by obtain ⟨g, hg⟩ := hg; exact ⟨g, (hk.2 103 (by decide) (by decide)).trans hg⟩) (by omega) hc hs
theorem lw_toggle (hL : G.2.2.2.1 ≤ 3072) (hi : i + 6 ≤ G.2.2.2.1) (ih : LawOK G N (i + 6)) (hI : LI S σ mk T) (hT : T + (N + 1) * 2652510 + 2900000 < 2 ^ 31) : Wp G mL_law 100 1346 (lwL i v5 v6) [] σ ((N + 1) * 24 + scC (mk 0)) ((N + 1) * 5022 + scS (mk 0)) lwQ := by
  obtain ⟨hV, hS, hM, hg⟩ := hI
  refine wp_aload_n (atd dLw34 0 rfl) rfl rfl ?_
  refine law_ld (j := 1) (n := 1) (by decide) (atd dLw34 1 rfl) (atd dLw34 2 rfl) (atd dLw34 3 rfl) (atd dLw34 4 rfl) (atd dLw34 5 rfl) hL (by omega) ?_
  refine law_ld (j := 2) (n := 2) (by decide) (atd dLw34 6 rfl) (atd dLw34 7 rfl) (atd dLw34 8 rfl) (atd dLw34 9 rfl) (atd dLw34 10 rfl) hL (by omega) ?_
  refine law_cv (T := T) [_, _] (atd dLw34 11 rfl) iX11_toggle lL_162 rfl rfl rfl hS.1.2.2.2 (VC.z (tog_V hV _ _) (by omega) (vX11_toggle (by decide) hV hS)) (fun s2 mk2 T2 mc2 ms2 hk hT2 hS2 hV2 hc hs => ?_)
  refine wp_aload_n (atd dLw34 12 rfl) rfl rfl ?_
  refine law_ld (j := 1) (n := 1) (by decide) (atd dLw34 13 rfl) (atd dLw34 14 rfl) (atd dLw34 15 rfl) (atd dLw34 16 rfl) (atd dLw34 17 rfl) hL (by omega) ?_
  refine law_ld (j := 2) (n := 2) (by decide) (atd dLw34 18 rfl) (atd dLw34 19 rfl) (atd dLw34 20 rfl) (atd dLw34 21 rfl) (atd dLw34 22 rfl) hL (by omega) ?_
  refine law_cz [_, _] (atd dLw34 23 rfl) iX12_toggle lL_165 rfl rfl rfl (hM.fK hk) (fun _ h => zX12_toggle (by decide) hV h) (fun s3 hM3 => ?_)
  exact law_eq (atd dLw34 24 rfl) (by decide) ih hV2 hS2 hM3 (by obtain ⟨g, hg⟩ := hg; exact ⟨g, (hk.2 103 (by decide) (by decide)).trans hg⟩) (by omega) hc hs
theorem lw_become (hL : G.2.2.2.1 ≤ 3072) (hi : i + 6 ≤ G.2.2.2.1) (ih : LawOK G N (i + 6)) (hI : LI S σ mk T) (hT : T + (N + 1) * 2652510 + 2900000 < 2 ^ 31) : Wp G mL_law 100 1383 (lwL i v5 v6) [] σ ((N + 1) * 24 + scC (mk 0)) ((N + 1) * 5022 + scS (mk 0)) lwQ := by
  obtain ⟨hV, hS, hM, hg⟩ := hI
  refine wp_aload_n (atd dLw35 0 rfl) rfl rfl ?_
  refine law_ld (j := 1) (n := 1) (by decide) (atd dLw35 1 rfl) (atd dLw35 2 rfl) (atd dLw35 3 rfl) (atd dLw35 4 rfl) (atd dLw35 5 rfl) hL (by omega) ?_
  refine law_cv (T := T) [_] (atd dLw35 6 rfl) iX11_become lL_166 rfl rfl rfl hS.1.2.2.2 (VC.z (bec_V hV _) (by omega) (vX11_become (by decide) hV hS)) (fun s2 mk2 T2 mc2 ms2 hk hT2 hS2 hV2 hc hs => ?_)
  refine wp_aload_n (atd dLw35 7 rfl) rfl rfl ?_
  refine law_ld (j := 1) (n := 1) (by decide) (atd dLw35 8 rfl) (atd dLw35 9 rfl) (atd dLw35 10 rfl) (atd dLw35 11 rfl) (atd dLw35 12 rfl) hL (by omega) ?_
  refine law_cz [_] (atd dLw35 13 rfl) iX12_become lL_169 rfl rfl rfl (hM.fK hk) (fun _ h => zX12_become (by decide) hV h) (fun s3 hM3 => ?_)
  exact law_eq (atd dLw35 14 rfl) (by decide) ih hV2 hS2 hM3 (by obtain ⟨g, hg⟩ := hg; exact ⟨g, (hk.2 103 (by decide) (by decide)).trans hg⟩) (by omega) hc hs
theorem lw_undo (hL : G.2.2.2.1 ≤ 3072) (hi : i + 6 ≤ G.2.2.2.1) (ih : LawOK G N (i + 6)) (hI : LI S σ mk T) (hT : T + (N + 1) * 2652510 + 2900000 < 2 ^ 31) : Wp G mL_law 100 1408 (lwL i v5 v6) [] σ ((N + 1) * 24 + scC (mk 0)) ((N + 1) * 5022 + scS (mk 0)) lwQ := by
  obtain ⟨hV, hS, hM, hg⟩ := hI
  refine wp_aload_n (atd dLw36 0 rfl) rfl rfl ?_
  refine law_cv (T := T) [] (atd dLw36 1 rfl) iX11_undo lL_170 rfl rfl rfl hS.1.2.2.2 (VC.z (undo_V hV) (by omega) (vX11_undo (by decide) hV hS)) (fun s2 mk2 T2 mc2 ms2 hk hT2 hS2 hV2 hc hs => ?_)
  refine wp_aload_n (atd dLw36 2 rfl) rfl rfl ?_
  refine law_cz [] (atd dLw36 3 rfl) iX12_undo lL_174 rfl rfl rfl (hM.fK hk) (fun _ h => zX12_undo (by decide) hV h) (fun s3 hM3 => ?_)
  exact law_eq (atd dLw36 4 rfl) (by decide) ih hV2 hS2 hM3 (by obtain ⟨g, hg⟩ := hg; exact ⟨g, (hk.2 103 (by decide) (by decide)).trans hg⟩) (by omega) hc hs
end LawC
