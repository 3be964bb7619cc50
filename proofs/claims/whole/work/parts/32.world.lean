def zz_sk : List (String × Nat) := [("NeedleShop$ShopText", 21), ("NeedleShop$ShopText", 64), ("NeedleShop$ShopText", 73), ("NeedleShop$ShopText", 75), ("NeedleShop$ShopText", 36), ("NeedleShop$ShopText", 84), ("NeedleShop$ShopText", 86), ("NeedleShop$ShopText", 88), ("NeedleShop$ShopText", 41), ("NeedleShop$ShopText", 49), ("NeedleShop$ShopText", 53), ("NeedleShop", 93), ("NeedleShop", 103), ("NeedleShop$LawText", 26), ("NeedleShop$LawText", 32), ("NeedleShop$LawText", 34), ("NeedleShop$LawText", 43), ("NeedleShop$LawText", 67), ("NeedleShop$LawText", 77), ("NeedleShop$LawText", 79), ("NeedleShop$LawText", 96), ("NeedleShop$LawText", 98), ("NeedleShop$LawText", 100), ("NeedleShop$LawText", 102), ("NeedleShop$LawText", 104), ("NeedleShop$LawText", 106), ("NeedleShop$LawText", 108), ("NeedleShop$LawText", 110), ("NeedleShop$LawText", 65), ("NeedleShop$LawText", 56), ("NeedleShop", 419), ("NeedleShop", 167), ("NeedleShop", 416), ("NeedleShop", 423), ("NeedleShop", 215), ("NeedleShop", 425), ("NeedleShop", 230), ("NeedleShop", 244), ("NeedleShop", 421), ("NeedleShop", 249), ("NeedleShop", 251), ("NeedleShop", 253), ("NeedleShop", 427), ("NeedleShop", 429), ("NeedleShop", 431), ("NeedleShop", 342), ("NeedleShop", 365), ("NeedleShopModel", 220), ("NeedleShopModel", 222), ("NeedleShopModel", 224), ("NeedleShopModel", 226), ("NeedleShopModel", 201), ("NeedleShopModel", 187), ("NeedleShopModel", 193), ("NeedleShopModel", 137), ("NeedleShopModel", 132), ("NeedleShopModel", 118), ("NeedleShopModel", 124), ("NeedleShopModel", 178), ("NeedleShopModel", 180), ("NeedleShopModel", 182), ("NeedleShopModel", 148), ("NeedleShopModel", 213), ("NeedleShopModel", 218), ("NeedleShopModel", 106), ("NeedleShopModel", 114), ("NeedleShopModel", 116), ("NeedleShopModel", 126), ("NeedleShopModel", 142), ("NeedleShopModel", 146)]
/-- a text that is loaded is the text of that number -/
def zz_sid2 (nm : zz_NM) (r : Nat × zz_I) : Bool := match r with
  | (_, i, _, a, b, _) => match i with
    | .ldc ix => Nat.beq b 0 || decide (zz_sk[a]? = some (nm.1.cls, ix))
    | _ => true
def zz_sids2 : List zz_M → List zz_NM → Bool
  | m :: ms, n :: ns => m.1.all (zz_sid2 n) && zz_sids2 ms ns
  | _, _ => true
theorem zz_sids2_ok : zz_sids2 zz_P zz_N = true := by decide +kernel
section ZG
variable {D : va_G} {cI cZ cL cS : ClassId} {b base : Nat} {sa : Nat → Nat} {L0 : Nat} {xs0 : Nat → Int32}
/-- a text's object: Latin letters, as many as its list has -/
def zz_str (base : Nat) (q j : Nat) (U : State) : Prop := ∃ av : Nat, va_O "java/lang/String" q (fun z => base ≤ z) U U.heap ∧ va_OF "java/lang/String" "coder" "B" (.int 0) q (fun z => base ≤ z) U U.heap ∧ va_OF "java/lang/String" "value" "[B" (.ref av) q (fun z => base ≤ z) U U.heap ∧ va_T .byte av (zz_S.getD j []).length (fun i => .int ((zz_S.getD j []).getD i 0)) (fun z => base ≤ z) U U.heap
/-- what holds of every state of the run: the tables, the statics that a throw reads, the script, the texts -/
def zz_G (D : va_G) (cI cZ cL cS : ClassId) (b base : Nat) (sa : Nat → Nat) (L0 : Nat) (xs0 : Nat → Int32) (U : State) : Prop :=
  va_K D vwCl [(cI, .int), (cZ, .boolean), (cL, .long), (cS, .object RX8)] U ∧ vx_Zq Bundle.tN "UNASSIGNED_STACK" Bundle.steD (fun z => base ≤ z) U U.heap ∧ vx_Zq Bundle.tN "SUPPRESSED_SENTINEL" Bundle.listD (fun z => base ≤ z) U U.heap ∧
  va_X b L0 xs0 U U.heap ∧ (b < base ∧ base ≤ U.heap.size ∧ L0 ≤ 3072) ∧ (∀ (j : Nat) (own : String) (ix : Nat), zz_sk[j]? = some (own, ix) → vk_R own ix (zz_tx.getD j "") (sa j) U ∧ zz_str base (sa j) j U) ∧
  (∀ i j : Nat, i < 5 → j < 5 → i ≠ j → va_Nc (zz_ex i) (zz_ex j) U) ∧ va_Z "java/lang/String" "COMPACT_STRINGS" "Z" (.int 1) (fun z => base ≤ z) U U.heap ∧ va_Zq "jdk/internal/util/Preconditions" "SIOOBE_FORMATTER" "Ljava/util/function/BiFunction;" (fun z => base ≤ z) U U.heap ∧ va_AO RX8 U
theorem zz_G.go {s U : State} (h : zz_G D cI cZ cL cS b base sa L0 xs0 s) (hW : s.WarmedH U.vm) (hh : ∀ q : Nat, q < base → U.heap[q]? = s.heap[q]?) (hz : base ≤ U.heap.size) : zz_G D cI cZ cL cS b base sa L0 xs0 U := by
  obtain ⟨h1, h2, h3, h4, h5, h6, h7, h8, h9, h10⟩ := h
  have hq : ∀ a : Nat, a < s.heap.size → ¬ (fun z => base ≤ z) a → U.heap[a]? = s.heap[a]? := fun a _ hn => hh a (Nat.lt_of_not_le hn)
  have ha := hW.alike
  refine ⟨va_K.moved ha h1, vx_Zq.moved ha (h2.kept hq), vx_Zq.moved ha (h3.kept hq), (h4.moved ha).kept (hh b h5.1), ⟨h5.1, hz, h5.2.2⟩, fun j own ix hj => ?_, fun i j hi hj hn => va_Nc.moved ha (h7 i j hi hj hn), va_Z.moved ha (h8.kept hq), va_Zq.moved ha (h9.kept hq), va_AO.moved ha h10⟩
  obtain ⟨g1, av, g2, g3, g4, g5⟩ := h6 j own ix hj
  exact ⟨g1.warm hW, av, va_O.moved ha (g2.kept hq), va_OF.moved ha (g3.kept hq), va_OF.moved ha (g4.kept hq), va_T.moved ha (g5.kept hq)⟩
theorem zz_low {A : Nat → Prop} {s : State} {H : Heap} {locs : List Loc} (hS : va_S (fun z => base ≤ z) s.heap H locs) (hb : base ≤ s.heap.size) : ∀ q : Nat, q < base → H[q]? = s.heap[q]? := fun q hq => hS.2.1 q (by omega) (by show ¬ base ≤ q; omega)
end ZG
/-- the seven classes -/
theorem zz_cls : ∀ c, c < 7 → ∃ (C : String) (T : u_T) (N : Nat) (ty : Nat → FieldType), vwCl[c]? = some (C, T, N) ∧ zz_nf c = N ∧ zz_cn c = C ∧ (∀ i, zz_fd c i = T i) ∧ (∀ k, k < N → parseFieldDescriptor (T k).2.2.1 = some (ty k)) ∧ (∀ a, a < N → ∀ b, b < N → a ≠ b → (T a).2.1 ≠ (T b).2.1) ∧ (∀ w ∈ u_ws C T N, w ∈ zz_ws) ∧ Cond.instantiable C N ∈ zz_ws ∧ Cond.initialized C ∈ zz_ws ∧ (∀ k, k < N → (T k).1 = C) := by
  have h : ∀ (C : String) (T : u_T) (N : Nat), (∀ w ∈ Cond.instantiable C N :: Cond.initialized C :: u_ws C T N, w ∈ zz_ws) → (∀ w ∈ u_ws C T N, w ∈ zz_ws) ∧ Cond.instantiable C N ∈ zz_ws ∧ Cond.initialized C ∈ zz_ws := fun C T N h => ⟨fun w hw => h w (List.mem_cons_of_mem _ (List.mem_cons_of_mem _ hw)), h _ List.mem_cons_self, h _ (List.mem_cons_of_mem _ List.mem_cons_self)⟩
  intro c hc
  match c, hc with
  | 0, _ => exact ⟨RX1, TX1, 8, tyX1, rfl, rfl, rfl, fun _ => rfl, tyX1_ok, nmX1, (h _ _ _ (by decide +kernel)).1, (h RX1 TX1 8 (by decide +kernel)).2.1, (h RX1 TX1 8 (by decide +kernel)).2.2, by decide +kernel⟩
  | 1, _ => exact ⟨RX4, TX4, 3, tyX4, rfl, rfl, rfl, fun _ => rfl, tyX4_ok, nmX4, (h _ _ _ (by decide +kernel)).1, (h RX4 TX4 3 (by decide +kernel)).2.1, (h RX4 TX4 3 (by decide +kernel)).2.2, by decide +kernel⟩
  | 2, _ => exact ⟨RX5, TX5, 1, tyX5, rfl, rfl, rfl, fun _ => rfl, tyX5_ok, nmX5, (h _ _ _ (by decide +kernel)).1, (h RX5 TX5 1 (by decide +kernel)).2.1, (h RX5 TX5 1 (by decide +kernel)).2.2, by decide +kernel⟩
  | 3, _ => exact ⟨RX8, TX8, 18, tyX8, rfl, rfl, rfl, fun _ => rfl, tyX8_ok, nmX8, (h _ _ _ (by decide +kernel)).1, (h RX8 TX8 18 (by decide +kernel)).2.1, (h RX8 TX8 18 (by decide +kernel)).2.2, by decide +kernel⟩
  | 4, _ => exact ⟨RX9, TX9, 5, tyX9, rfl, rfl, rfl, fun _ => rfl, tyX9_ok, nmX9, (h _ _ _ (by decide +kernel)).1, (h RX9 TX9 5 (by decide +kernel)).2.1, (h RX9 TX9 5 (by decide +kernel)).2.2, by decide +kernel⟩
  | 5, _ => exact ⟨RX10, TX10, 11, tyX10, rfl, rfl, rfl, fun _ => rfl, tyX10_ok, nmX10, (h _ _ _ (by decide +kernel)).1, (h RX10 TX10 11 (by decide +kernel)).2.1, (h RX10 TX10 11 (by decide +kernel)).2.2, by decide +kernel⟩
  | 6, _ => exact ⟨RX11, TX11, 22, tyX11, rfl, rfl, rfl, fun _ => rfl, tyX11_ok, nmX11, (h _ _ _ (by decide +kernel)).1, (h RX11 TX11 22 (by decide +kernel)).2.1, (h RX11 TX11 22 (by decide +kernel)).2.2, by decide +kernel⟩
  | c + 7, hc => omega
