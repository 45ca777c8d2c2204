theorem nw_RL_8 : NewW RL 8 10 RX11 TX11 15 [.null, .null, .null, .null, .null, .null, .null, .null, .null, .null, .null, .null, .null, .null, .int 0] := ⟨rfl, uw_RX11, gw_of (i := 104) (by decide +kernel) rfl, gw_of (i := 105) (by decide +kernel) rfl, gw_of (i := 79) (by decide +kernel) rfl, tyX11, tyX11_ok, by decide +kernel⟩
theorem nw_RL_23 : NewW RL 23 11 RX12 TX12 45 [.null, .int 0, .null, .null, .null, .null, .null, .null, .int 0, .null, .null, .null, .int 0, .null, .int 0, .null, .int 0, .int 0, .null, .int 0, .int 0, .int 0, .int 0, .null, .null, .int 0, .int 0, .null, .null, .int 0, .null, .null, .null, .int 0, .null, .null, .null, .int 0, .int 0, .null, .int 0, .int 0, .null, .null, .null] := ⟨rfl, uw_RX12, gw_of (i := 1255) (by decide +kernel) rfl, gw_of (i := 1256) (by decide +kernel) rfl, gw_of (i := 92) (by decide +kernel) rfl, tyX12, tyX12_ok, by decide +kernel⟩
theorem yi_X11_init : YI yX11_init cX11_init 2 0 := ⟨gw_of (i := 107) (by decide +kernel) rfl, gw_of (i := 79) (by decide +kernel) rfl, gw_of (i := 108) (by decide +kernel) rfl, ⟨by decide +kernel, by decide +kernel, by decide +kernel⟩, by decide, rfl⟩
theorem cm_RL_22 : Cond.methodLink RL 22 yX11_init ∈ gw := gw_of (i := 106) (by decide +kernel) rfl
theorem yi_X12_init : YI yX12_init cX12_init 1 0 := ⟨gw_of (i := 1258) (by decide +kernel) rfl, gw_of (i := 92) (by decide +kernel) rfl, gw_of (i := 1259) (by decide +kernel) rfl, ⟨by decide +kernel, by decide +kernel, by decide +kernel⟩, by decide, rfl⟩
theorem cm_RL_25 : Cond.methodLink RL 25 yX12_init ∈ gw := gw_of (i := 1257) (by decide +kernel) rfl
def strTm (i : Nat) : Term := match strTab[i]? with
  | some q => .string q.1 q.2.1
  | none => .int 0
set_option maxRecDepth 100000 in
theorem st_ex : ∀ i, i < 12 → Cond.exactly (strTm i) "java/lang/String" ∈ flatC (Jvm.Cond.and given_1 narrow_1) := by decide +kernel
set_option maxRecDepth 100000 in
theorem st_co : ∀ i, i < 12 → Cond.eq (.field (strTm i) "java/lang/String" "coder" "B") (.int 0) ∈ flatC (Jvm.Cond.and given_1 narrow_1) := by decide +kernel
set_option maxRecDepth 100000 in
theorem st_ar : ∀ i, i < 12 → Cond.arrayOf (.field (strTm i) "java/lang/String" "value" "[B") .byte ∈ flatC (Jvm.Cond.and given_1 narrow_1) := by decide +kernel
set_option maxRecDepth 100000 in
theorem st_le : ∀ i, i < 12 → Cond.eq (.length (.field (strTm i) "java/lang/String" "value" "[B")) (.int (Int32.ofNat (strLen.getD i 0))) ∈ flatC (Jvm.Cond.and given_1 narrow_1) := by decide +kernel
set_option maxRecDepth 100000 in
theorem st_el : ∀ i, i < 12 → ∀ j, j < strLen.getD i 0 → Cond.eq (.elem (.field (strTm i) "java/lang/String" "value" "[B") (.int (Int32.ofNat j))) (.int ((strByt.getD i []).getD j 0)) ∈ flatC (Jvm.Cond.and given_1 narrow_1) := by decide +kernel
set_option maxRecDepth 100000 in
theorem st_ne : ∀ i, i < 12 → ∀ j, j < 12 → i ≠ j → Cond.not (Cond.eq (strTm i) (strTm j)) ∈ flatC (Jvm.Cond.and given_1 narrow_1) ∨ Cond.not (Cond.eq (strTm j) (strTm i)) ∈ flatC (Jvm.Cond.and given_1 narrow_1) := by decide +kernel
set_option maxRecDepth 100000 in
theorem st_rf : ∀ q ∈ strTab, Cond.stringRef q.1 q.2.1 q.2.2.1 ∈ lw_tbl ∧ strTm q.2.2.2 = .string q.1 q.2.1 ∧ q.2.2.2 < 12 := by decide +kernel
set_option maxRecDepth 100000 in
theorem ns_decl : ∀ y ∈ nsDecl, Cond.declares y ∈ lw_tbl := by decide +kernel
set_option maxRecDepth 100000 in
theorem st_nest : ∀ q ∈ nestW, Cond.methodLinkNest q.1 q.2.1 q.2.2.1 q.2.2.2 ∈ lw_tbl := by decide +kernel
