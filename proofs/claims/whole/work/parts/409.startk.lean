set_option maxHeartbeats 4000000 in
set_option maxRecDepth 100000 in
theorem start_K {s : State} {args : Array Value} (hts : ∀ w ∈ lw_tbl, w.before args s = true) (hgv : (Jvm.Cond.and given_1 narrow_1).before args s = true) : ∃ (dC : Nat → ClassId) (dI : Nat → Nat → Nat) (ca : Nat → ClassId) (sk sv : Nat → Nat), ∀ ad : Nat → Nat, KN (dC, dI, ad, ca, sk, sv) s.heap.size s := by
  have htsg : ∀ w ∈ gw, w.before args s = true := fun w hw => hts w (List.mem_filter.mp hw).1
  have hs := flat_of_before _ hgv
  obtain ⟨c0, s0, k0⟩ := u_known (C := RX0) (T := TX0) (N := 3) (n := 3) htsg uw_RX0 (htsg _ nw_RX11_39.2.2.2.1)
  obtain ⟨c1, s1, k1⟩ := u_known (C := RX1) (T := TX1) (N := 5) (n := 5) htsg uw_RX1 (htsg _ nw_RX11_30.2.2.2.1)
  obtain ⟨c2, s2, k2⟩ := u_known (C := RX2) (T := TX2) (N := 5) (n := 5) htsg uw_RX2 (htsg _ nw_RX11_53.2.2.2.1)
  obtain ⟨c3, s3, k3⟩ := u_known (C := RX3) (T := TX3) (N := 7) (n := 7) htsg uw_RX3 (htsg _ nw_RX11_23.2.2.2.1)
  obtain ⟨c4, s4, k4⟩ := u_known (C := RX4) (T := TX4) (N := 9) (n := 9) htsg uw_RX4 (htsg _ nw_RX11_60.2.2.2.1)
  obtain ⟨c5, s5, k5⟩ := u_known (C := RX6) (T := TX6) (N := 3) (n := 3) htsg uw_RX6 (htsg _ nw_RX11_72.2.2.2.1)
  obtain ⟨c6, s6, k6⟩ := u_known (C := RX7) (T := TX7) (N := 2) (n := 2) htsg uw_RX7 (htsg _ nw_RX11_16.2.2.2.1)
  obtain ⟨c7, s7, k7⟩ := u_known (C := RX8) (T := TX8) (N := 6) (n := 6) htsg uw_RX8 (htsg _ nw_RX11_46.2.2.2.1)
  obtain ⟨c8, s8, k8⟩ := u_known (C := RX9) (T := TX9) (N := 4) (n := 4) htsg uw_RX9 (htsg _ nw_RX11_7.2.2.2.1)
  obtain ⟨c9, s9, k9⟩ := u_known (C := RX10) (T := TX10) (N := 8) (n := 8) htsg uw_RX10 (htsg _ nw_RX11_79.2.2.2.1)
  obtain ⟨c10, s10, k10⟩ := u_known (C := RX11) (T := TX11) (N := 15) (n := 15) htsg uw_RX11 (htsg _ nw_RL_8.2.2.2.1)
  obtain ⟨c11, s11, k11⟩ := u_known (C := RX12) (T := TX12) (N := 45) (n := 45) htsg uw_RX12 (htsg _ nw_RL_23.2.2.2.1)
  obtain ⟨aI, bI, eI, fI, gI, hI⟩ := Cond.arrayClass_spec (htsg _ ar_I)
  obtain ⟨aC, bC, eC, fC, gC, hC⟩ := Cond.arrayClass_spec (htsg _ ar_C)
  obtain ⟨aB, bB, eB, fB, gB, hB⟩ := Cond.arrayClass_spec (htsg _ ar_B)
  obtain ⟨aZ, bZ, eZ, fZ, gZ, hZ⟩ := Cond.arrayClass_spec (htsg _ ar_Z)
  obtain ⟨aJ, bJ, eJ, fJ, gJ, hJ⟩ := Cond.arrayClass_spec (htsg _ ar_J)
  obtain ⟨eH, aH, bH, f1H, f2H, f3H, f4H, f5H⟩ := Cond.arrayOver_spec (hts (.arrayOver (.object "HeWillNotPlead$Hall")) (by decide +kernel))
  obtain ⟨sk, sv, hSt, hev⟩ := vk_Sof (N := 12) (tm := strTm) (len := strLen) (byt := strByt) (A := fun q => s.heap.size ≤ q) (by decide) (fun i hi => hs _ (st_ex i hi)) (fun i hi => hs _ (st_co i hi)) (fun i hi => hs _ (st_ar i hi)) (fun i hi => hs _ (st_le i hi)) (fun i hi j hj => hs _ (st_el i hi j hj)) (fun i j hi hj hn => (st_ne i hi j hj hn).elim (fun h => Or.inl (hs _ h)) (fun h => Or.inr (hs _ h))) (fun a ha => Nat.not_le.mpr ha)
  refine ⟨(fun k => if k = 0 then c0 else if k = 1 then c1 else if k = 2 then c2 else if k = 3 then c3 else if k = 4 then c4 else if k = 5 then c5 else if k = 6 then c6 else if k = 7 then c7 else if k = 8 then c8 else if k = 9 then c9 else if k = 10 then c10 else c11), (fun k => if k = 0 then s0 else if k = 1 then s1 else if k = 2 then s2 else if k = 3 then s3 else if k = 4 then s4 else if k = 5 then s5 else if k = 6 then s6 else if k = 7 then s7 else if k = 8 then s8 else if k = 9 then s9 else if k = 10 then s10 else s11), (fun t => if t = 0 then aI else if t = 1 then aC else if t = 2 then aB else if t = 3 then aZ else if t = 4 then aJ else aH), sk, sv, fun ad => ⟨⟨fun c q hq => ?_, fun k q hk => ?_⟩, hSt, va_Zof (hts (.laysStatic "java/lang/String" "COMPACT_STRINGS" "Z") (by decide +kernel)) (hts (.initialized "java/lang/String") (by decide +kernel)) (va_eqi (hs (.eq (.static "java/lang/String" "COMPACT_STRINGS" "Z") (.int 1)) (by decide +kernel))) (fun a ha => Nat.not_le.mpr ha), fun q hq => ?_, fun q hq => va_Nw.of rfl (hts _ (st_nest q hq)), va_AO.of (hts (.arrayOver (.object "HeWillNotPlead$Hall")) (by decide +kernel))⟩⟩
  · match c, hq with
    | 0, hq => cases hq; exact k0
    | 1, hq => cases hq; exact k1
    | 2, hq => cases hq; exact k2
    | 3, hq => cases hq; exact k3
    | 4, hq => cases hq; exact k4
    | 5, hq => cases hq; exact k5
    | 6, hq => cases hq; exact k6
    | 7, hq => cases hq; exact k7
    | 8, hq => cases hq; exact k8
    | 9, hq => cases hq; exact k9
    | 10, hq => cases hq; exact k10
    | 11, hq => cases hq; exact k11
    | c + 12, hq => simp [vwCl] at hq
  · match k, hk with
    | 0, hk => cases hk; exact ⟨fun n z => ⟨fun k h => (by cases h), bI, gI, eI, hI⟩, fI⟩
    | 1, hk => cases hk; exact ⟨fun n z => ⟨fun k h => (by cases h), bC, gC, eC, hC⟩, fC⟩
    | 2, hk => cases hk; exact ⟨fun n z => ⟨fun k h => (by cases h), bB, gB, eB, hB⟩, fB⟩
    | 3, hk => cases hk; exact ⟨fun n z => ⟨fun k h => (by cases h), bZ, gZ, eZ, hZ⟩, fZ⟩
    | 4, hk => cases hk; exact ⟨fun n z => ⟨fun k h => (by cases h), bJ, gJ, eJ, hJ⟩, fJ⟩
    | 5, hk => cases hk; exact ⟨fun n z => ⟨fun k h => (by cases h), bH, f3H, eH, f4H⟩, bH, eH, f3H, f4H, f1H, f5H⟩
    | k + 6, hk => simp [tysL] at hk
  · obtain ⟨h1, h2, h3⟩ := st_rf q hq
    exact vk_R.of (A := args) (hts _ h1) (by rw [← h2]; exact hev _ h3)
