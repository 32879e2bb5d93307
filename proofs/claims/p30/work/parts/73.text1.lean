/-! the class's Text as one fact -/
section TXW
variable {g : GG} {t : Nat} {tx : Nat → Int32} {ln : Nat} {wd : Nat → Int32} {ht : Nat → Int32} {fi : Nat → Int32} {la : Nat → Int32} {nx : Nat → Int32} {di : Nat → Int32} {op : Nat → Int32} {oc : Int32} {wh : Int32} {H H1 H0 : Heap} {A : Nat → Prop} {locs : List Loc}
theorem TxAt.a_tx (h : TxAt g t tx ln wd ht fi la nx di op oc wh H) : at_ g H (t + 1) (eI g 60 tx) := h.2.1
theorem TxAt.a_wd (h : TxAt g t tx ln wd ht fi la nx di op oc wh H) : at_ g H (t + 2) (eI g 60 wd) := h.2.2.1
theorem TxAt.a_ht (h : TxAt g t tx ln wd ht fi la nx di op oc wh H) : at_ g H (t + 3) (eI g 60 ht) := h.2.2.2.1
theorem TxAt.a_fi (h : TxAt g t tx ln wd ht fi la nx di op oc wh H) : at_ g H (t + 4) (eI g 60 fi) := h.2.2.2.2.1
theorem TxAt.a_la (h : TxAt g t tx ln wd ht fi la nx di op oc wh H) : at_ g H (t + 5) (eI g 60 la) := h.2.2.2.2.2.1
theorem TxAt.a_nx (h : TxAt g t tx ln wd ht fi la nx di op oc wh H) : at_ g H (t + 6) (eI g 60 nx) := h.2.2.2.2.2.2.1
theorem TxAt.a_di (h : TxAt g t tx ln wd ht fi la nx di op oc wh H) : at_ g H (t + 7) (eI g 60 di) := h.2.2.2.2.2.2.2.1
theorem TxAt.a_op (h : TxAt g t tx ln wd ht fi la nx di op oc wh H) : at_ g H (t + 8) (eI g 60 op) := h.2.2.2.2.2.2.2.2
theorem TxAt.lt (h : TxAt g t tx ln wd ht fi la nx di op oc wh H) : t + 8 < H.size := h.a_op.lt
theorem TxAt.keptF {F : Nat → Prop} (h : TxAt g t tx ln wd ht fi la nx di op oc wh H) (hf : Fr (ftA F H.size) H H1) (hk : ∀ q : Nat, t ≤ q → q < t + 9 → ¬ F q) : TxAt g t tx ln wd ht fi la nx di op oc wh H1 := h.kept (fun q h1 h2 => hf.2 q (by have := h.lt; omega) (fun z => z.elim (hk q h1 h2) (fun y => by have := h.lt; omega)))
theorem TxAt.w_oc {x : Int32} (h : TxAt g t tx ln wd ht fi la nx di op oc wh H) (hw : Wr g A H0 H t (eO 7 [.ref (t + 1), .int (nI ln), .ref (t + 2), .ref (t + 3), .ref (t + 4), .ref (t + 5), .ref (t + 6), .ref (t + 7), .ref (t + 8), .int x, .int wh]) H1 locs) : TxAt g t tx ln wd ht fi la nx di op x wh H1 ∧ va_S A H0 H1 locs := ⟨⟨hw.1, (h.2.1).kept (hw.2.1 _ (by omega)), (h.2.2.1).kept (hw.2.1 _ (by omega)), (h.2.2.2.1).kept (hw.2.1 _ (by omega)), (h.2.2.2.2.1).kept (hw.2.1 _ (by omega)), (h.2.2.2.2.2.1).kept (hw.2.1 _ (by omega)), (h.2.2.2.2.2.2.1).kept (hw.2.1 _ (by omega)), (h.2.2.2.2.2.2.2.1).kept (hw.2.1 _ (by omega)), (h.2.2.2.2.2.2.2.2).kept (hw.2.1 _ (by omega))⟩, hw.2.2.2⟩
theorem TxAt.w_wh {x : Int32} (h : TxAt g t tx ln wd ht fi la nx di op oc wh H) (hw : Wr g A H0 H t (eO 7 [.ref (t + 1), .int (nI ln), .ref (t + 2), .ref (t + 3), .ref (t + 4), .ref (t + 5), .ref (t + 6), .ref (t + 7), .ref (t + 8), .int oc, .int x]) H1 locs) : TxAt g t tx ln wd ht fi la nx di op oc x H1 ∧ va_S A H0 H1 locs := ⟨⟨hw.1, (h.2.1).kept (hw.2.1 _ (by omega)), (h.2.2.1).kept (hw.2.1 _ (by omega)), (h.2.2.2.1).kept (hw.2.1 _ (by omega)), (h.2.2.2.2.1).kept (hw.2.1 _ (by omega)), (h.2.2.2.2.2.1).kept (hw.2.1 _ (by omega)), (h.2.2.2.2.2.2.1).kept (hw.2.1 _ (by omega)), (h.2.2.2.2.2.2.2.1).kept (hw.2.1 _ (by omega)), (h.2.2.2.2.2.2.2.2).kept (hw.2.1 _ (by omega))⟩, hw.2.2.2⟩
theorem TxAt.w_tx {x : Nat → Int32} (h : TxAt g t tx ln wd ht fi la nx di op oc wh H) (hw : Wr g A H0 H (t + 1) (eI g 60 x) H1 locs) : TxAt g t x ln wd ht fi la nx di op oc wh H1 ∧ va_S A H0 H1 locs := ⟨⟨(h.1).kept (hw.2.1 _ (by omega)), hw.1, (h.2.2.1).kept (hw.2.1 _ (by omega)), (h.2.2.2.1).kept (hw.2.1 _ (by omega)), (h.2.2.2.2.1).kept (hw.2.1 _ (by omega)), (h.2.2.2.2.2.1).kept (hw.2.1 _ (by omega)), (h.2.2.2.2.2.2.1).kept (hw.2.1 _ (by omega)), (h.2.2.2.2.2.2.2.1).kept (hw.2.1 _ (by omega)), (h.2.2.2.2.2.2.2.2).kept (hw.2.1 _ (by omega))⟩, hw.2.2.2⟩
theorem TxAt.f_tx {x : Nat → Int32} (h : TxAt g t tx ln wd ht fi la nx di op oc wh H) (hf : Fr (ftA (fun q => q = t + 1) H.size) H H1) (hn : at_ g H1 (t + 1) (eI g 60 x)) : TxAt g t x ln wd ht fi la nx di op oc wh H1 := by
  have hk : ∀ q : Nat, q < H.size → q ≠ t + 1 → H1[q]? = H[q]? := fun q a b => hf.2 q a (fun y => y.elim (fun y => b y) (fun y => by omega))
  exact ⟨(h.1).kept (hk _ (h.1).lt (by omega)), hn, (h.2.2.1).kept (hk _ (h.2.2.1).lt (by omega)), (h.2.2.2.1).kept (hk _ (h.2.2.2.1).lt (by omega)), (h.2.2.2.2.1).kept (hk _ (h.2.2.2.2.1).lt (by omega)), (h.2.2.2.2.2.1).kept (hk _ (h.2.2.2.2.2.1).lt (by omega)), (h.2.2.2.2.2.2.1).kept (hk _ (h.2.2.2.2.2.2.1).lt (by omega)), (h.2.2.2.2.2.2.2.1).kept (hk _ (h.2.2.2.2.2.2.2.1).lt (by omega)), (h.2.2.2.2.2.2.2.2).kept (hk _ (h.2.2.2.2.2.2.2.2).lt (by omega))⟩
theorem TxAt.w_wd {x : Nat → Int32} (h : TxAt g t tx ln wd ht fi la nx di op oc wh H) (hw : Wr g A H0 H (t + 2) (eI g 60 x) H1 locs) : TxAt g t tx ln x ht fi la nx di op oc wh H1 ∧ va_S A H0 H1 locs := ⟨⟨(h.1).kept (hw.2.1 _ (by omega)), (h.2.1).kept (hw.2.1 _ (by omega)), hw.1, (h.2.2.2.1).kept (hw.2.1 _ (by omega)), (h.2.2.2.2.1).kept (hw.2.1 _ (by omega)), (h.2.2.2.2.2.1).kept (hw.2.1 _ (by omega)), (h.2.2.2.2.2.2.1).kept (hw.2.1 _ (by omega)), (h.2.2.2.2.2.2.2.1).kept (hw.2.1 _ (by omega)), (h.2.2.2.2.2.2.2.2).kept (hw.2.1 _ (by omega))⟩, hw.2.2.2⟩
theorem TxAt.f_wd {x : Nat → Int32} (h : TxAt g t tx ln wd ht fi la nx di op oc wh H) (hf : Fr (ftA (fun q => q = t + 2) H.size) H H1) (hn : at_ g H1 (t + 2) (eI g 60 x)) : TxAt g t tx ln x ht fi la nx di op oc wh H1 := by
  have hk : ∀ q : Nat, q < H.size → q ≠ t + 2 → H1[q]? = H[q]? := fun q a b => hf.2 q a (fun y => y.elim (fun y => b y) (fun y => by omega))
  exact ⟨(h.1).kept (hk _ (h.1).lt (by omega)), (h.2.1).kept (hk _ (h.2.1).lt (by omega)), hn, (h.2.2.2.1).kept (hk _ (h.2.2.2.1).lt (by omega)), (h.2.2.2.2.1).kept (hk _ (h.2.2.2.2.1).lt (by omega)), (h.2.2.2.2.2.1).kept (hk _ (h.2.2.2.2.2.1).lt (by omega)), (h.2.2.2.2.2.2.1).kept (hk _ (h.2.2.2.2.2.2.1).lt (by omega)), (h.2.2.2.2.2.2.2.1).kept (hk _ (h.2.2.2.2.2.2.2.1).lt (by omega)), (h.2.2.2.2.2.2.2.2).kept (hk _ (h.2.2.2.2.2.2.2.2).lt (by omega))⟩
theorem TxAt.w_ht {x : Nat → Int32} (h : TxAt g t tx ln wd ht fi la nx di op oc wh H) (hw : Wr g A H0 H (t + 3) (eI g 60 x) H1 locs) : TxAt g t tx ln wd x fi la nx di op oc wh H1 ∧ va_S A H0 H1 locs := ⟨⟨(h.1).kept (hw.2.1 _ (by omega)), (h.2.1).kept (hw.2.1 _ (by omega)), (h.2.2.1).kept (hw.2.1 _ (by omega)), hw.1, (h.2.2.2.2.1).kept (hw.2.1 _ (by omega)), (h.2.2.2.2.2.1).kept (hw.2.1 _ (by omega)), (h.2.2.2.2.2.2.1).kept (hw.2.1 _ (by omega)), (h.2.2.2.2.2.2.2.1).kept (hw.2.1 _ (by omega)), (h.2.2.2.2.2.2.2.2).kept (hw.2.1 _ (by omega))⟩, hw.2.2.2⟩
theorem TxAt.f_ht {x : Nat → Int32} (h : TxAt g t tx ln wd ht fi la nx di op oc wh H) (hf : Fr (ftA (fun q => q = t + 3) H.size) H H1) (hn : at_ g H1 (t + 3) (eI g 60 x)) : TxAt g t tx ln wd x fi la nx di op oc wh H1 := by
  have hk : ∀ q : Nat, q < H.size → q ≠ t + 3 → H1[q]? = H[q]? := fun q a b => hf.2 q a (fun y => y.elim (fun y => b y) (fun y => by omega))
  exact ⟨(h.1).kept (hk _ (h.1).lt (by omega)), (h.2.1).kept (hk _ (h.2.1).lt (by omega)), (h.2.2.1).kept (hk _ (h.2.2.1).lt (by omega)), hn, (h.2.2.2.2.1).kept (hk _ (h.2.2.2.2.1).lt (by omega)), (h.2.2.2.2.2.1).kept (hk _ (h.2.2.2.2.2.1).lt (by omega)), (h.2.2.2.2.2.2.1).kept (hk _ (h.2.2.2.2.2.2.1).lt (by omega)), (h.2.2.2.2.2.2.2.1).kept (hk _ (h.2.2.2.2.2.2.2.1).lt (by omega)), (h.2.2.2.2.2.2.2.2).kept (hk _ (h.2.2.2.2.2.2.2.2).lt (by omega))⟩
theorem TxAt.w_fi {x : Nat → Int32} (h : TxAt g t tx ln wd ht fi la nx di op oc wh H) (hw : Wr g A H0 H (t + 4) (eI g 60 x) H1 locs) : TxAt g t tx ln wd ht x la nx di op oc wh H1 ∧ va_S A H0 H1 locs := ⟨⟨(h.1).kept (hw.2.1 _ (by omega)), (h.2.1).kept (hw.2.1 _ (by omega)), (h.2.2.1).kept (hw.2.1 _ (by omega)), (h.2.2.2.1).kept (hw.2.1 _ (by omega)), hw.1, (h.2.2.2.2.2.1).kept (hw.2.1 _ (by omega)), (h.2.2.2.2.2.2.1).kept (hw.2.1 _ (by omega)), (h.2.2.2.2.2.2.2.1).kept (hw.2.1 _ (by omega)), (h.2.2.2.2.2.2.2.2).kept (hw.2.1 _ (by omega))⟩, hw.2.2.2⟩
theorem TxAt.f_fi {x : Nat → Int32} (h : TxAt g t tx ln wd ht fi la nx di op oc wh H) (hf : Fr (ftA (fun q => q = t + 4) H.size) H H1) (hn : at_ g H1 (t + 4) (eI g 60 x)) : TxAt g t tx ln wd ht x la nx di op oc wh H1 := by
  have hk : ∀ q : Nat, q < H.size → q ≠ t + 4 → H1[q]? = H[q]? := fun q a b => hf.2 q a (fun y => y.elim (fun y => b y) (fun y => by omega))
  exact ⟨(h.1).kept (hk _ (h.1).lt (by omega)), (h.2.1).kept (hk _ (h.2.1).lt (by omega)), (h.2.2.1).kept (hk _ (h.2.2.1).lt (by omega)), (h.2.2.2.1).kept (hk _ (h.2.2.2.1).lt (by omega)), hn, (h.2.2.2.2.2.1).kept (hk _ (h.2.2.2.2.2.1).lt (by omega)), (h.2.2.2.2.2.2.1).kept (hk _ (h.2.2.2.2.2.2.1).lt (by omega)), (h.2.2.2.2.2.2.2.1).kept (hk _ (h.2.2.2.2.2.2.2.1).lt (by omega)), (h.2.2.2.2.2.2.2.2).kept (hk _ (h.2.2.2.2.2.2.2.2).lt (by omega))⟩
theorem TxAt.w_la {x : Nat → Int32} (h : TxAt g t tx ln wd ht fi la nx di op oc wh H) (hw : Wr g A H0 H (t + 5) (eI g 60 x) H1 locs) : TxAt g t tx ln wd ht fi x nx di op oc wh H1 ∧ va_S A H0 H1 locs := ⟨⟨(h.1).kept (hw.2.1 _ (by omega)), (h.2.1).kept (hw.2.1 _ (by omega)), (h.2.2.1).kept (hw.2.1 _ (by omega)), (h.2.2.2.1).kept (hw.2.1 _ (by omega)), (h.2.2.2.2.1).kept (hw.2.1 _ (by omega)), hw.1, (h.2.2.2.2.2.2.1).kept (hw.2.1 _ (by omega)), (h.2.2.2.2.2.2.2.1).kept (hw.2.1 _ (by omega)), (h.2.2.2.2.2.2.2.2).kept (hw.2.1 _ (by omega))⟩, hw.2.2.2⟩
theorem TxAt.f_la {x : Nat → Int32} (h : TxAt g t tx ln wd ht fi la nx di op oc wh H) (hf : Fr (ftA (fun q => q = t + 5) H.size) H H1) (hn : at_ g H1 (t + 5) (eI g 60 x)) : TxAt g t tx ln wd ht fi x nx di op oc wh H1 := by
  have hk : ∀ q : Nat, q < H.size → q ≠ t + 5 → H1[q]? = H[q]? := fun q a b => hf.2 q a (fun y => y.elim (fun y => b y) (fun y => by omega))
  exact ⟨(h.1).kept (hk _ (h.1).lt (by omega)), (h.2.1).kept (hk _ (h.2.1).lt (by omega)), (h.2.2.1).kept (hk _ (h.2.2.1).lt (by omega)), (h.2.2.2.1).kept (hk _ (h.2.2.2.1).lt (by omega)), (h.2.2.2.2.1).kept (hk _ (h.2.2.2.2.1).lt (by omega)), hn, (h.2.2.2.2.2.2.1).kept (hk _ (h.2.2.2.2.2.2.1).lt (by omega)), (h.2.2.2.2.2.2.2.1).kept (hk _ (h.2.2.2.2.2.2.2.1).lt (by omega)), (h.2.2.2.2.2.2.2.2).kept (hk _ (h.2.2.2.2.2.2.2.2).lt (by omega))⟩
theorem TxAt.w_nx {x : Nat → Int32} (h : TxAt g t tx ln wd ht fi la nx di op oc wh H) (hw : Wr g A H0 H (t + 6) (eI g 60 x) H1 locs) : TxAt g t tx ln wd ht fi la x di op oc wh H1 ∧ va_S A H0 H1 locs := ⟨⟨(h.1).kept (hw.2.1 _ (by omega)), (h.2.1).kept (hw.2.1 _ (by omega)), (h.2.2.1).kept (hw.2.1 _ (by omega)), (h.2.2.2.1).kept (hw.2.1 _ (by omega)), (h.2.2.2.2.1).kept (hw.2.1 _ (by omega)), (h.2.2.2.2.2.1).kept (hw.2.1 _ (by omega)), hw.1, (h.2.2.2.2.2.2.2.1).kept (hw.2.1 _ (by omega)), (h.2.2.2.2.2.2.2.2).kept (hw.2.1 _ (by omega))⟩, hw.2.2.2⟩
theorem TxAt.f_nx {x : Nat → Int32} (h : TxAt g t tx ln wd ht fi la nx di op oc wh H) (hf : Fr (ftA (fun q => q = t + 6) H.size) H H1) (hn : at_ g H1 (t + 6) (eI g 60 x)) : TxAt g t tx ln wd ht fi la x di op oc wh H1 := by
  have hk : ∀ q : Nat, q < H.size → q ≠ t + 6 → H1[q]? = H[q]? := fun q a b => hf.2 q a (fun y => y.elim (fun y => b y) (fun y => by omega))
  exact ⟨(h.1).kept (hk _ (h.1).lt (by omega)), (h.2.1).kept (hk _ (h.2.1).lt (by omega)), (h.2.2.1).kept (hk _ (h.2.2.1).lt (by omega)), (h.2.2.2.1).kept (hk _ (h.2.2.2.1).lt (by omega)), (h.2.2.2.2.1).kept (hk _ (h.2.2.2.2.1).lt (by omega)), (h.2.2.2.2.2.1).kept (hk _ (h.2.2.2.2.2.1).lt (by omega)), hn, (h.2.2.2.2.2.2.2.1).kept (hk _ (h.2.2.2.2.2.2.2.1).lt (by omega)), (h.2.2.2.2.2.2.2.2).kept (hk _ (h.2.2.2.2.2.2.2.2).lt (by omega))⟩
theorem TxAt.w_di {x : Nat → Int32} (h : TxAt g t tx ln wd ht fi la nx di op oc wh H) (hw : Wr g A H0 H (t + 7) (eI g 60 x) H1 locs) : TxAt g t tx ln wd ht fi la nx x op oc wh H1 ∧ va_S A H0 H1 locs := ⟨⟨(h.1).kept (hw.2.1 _ (by omega)), (h.2.1).kept (hw.2.1 _ (by omega)), (h.2.2.1).kept (hw.2.1 _ (by omega)), (h.2.2.2.1).kept (hw.2.1 _ (by omega)), (h.2.2.2.2.1).kept (hw.2.1 _ (by omega)), (h.2.2.2.2.2.1).kept (hw.2.1 _ (by omega)), (h.2.2.2.2.2.2.1).kept (hw.2.1 _ (by omega)), hw.1, (h.2.2.2.2.2.2.2.2).kept (hw.2.1 _ (by omega))⟩, hw.2.2.2⟩
theorem TxAt.f_di {x : Nat → Int32} (h : TxAt g t tx ln wd ht fi la nx di op oc wh H) (hf : Fr (ftA (fun q => q = t + 7) H.size) H H1) (hn : at_ g H1 (t + 7) (eI g 60 x)) : TxAt g t tx ln wd ht fi la nx x op oc wh H1 := by
  have hk : ∀ q : Nat, q < H.size → q ≠ t + 7 → H1[q]? = H[q]? := fun q a b => hf.2 q a (fun y => y.elim (fun y => b y) (fun y => by omega))
  exact ⟨(h.1).kept (hk _ (h.1).lt (by omega)), (h.2.1).kept (hk _ (h.2.1).lt (by omega)), (h.2.2.1).kept (hk _ (h.2.2.1).lt (by omega)), (h.2.2.2.1).kept (hk _ (h.2.2.2.1).lt (by omega)), (h.2.2.2.2.1).kept (hk _ (h.2.2.2.2.1).lt (by omega)), (h.2.2.2.2.2.1).kept (hk _ (h.2.2.2.2.2.1).lt (by omega)), (h.2.2.2.2.2.2.1).kept (hk _ (h.2.2.2.2.2.2.1).lt (by omega)), hn, (h.2.2.2.2.2.2.2.2).kept (hk _ (h.2.2.2.2.2.2.2.2).lt (by omega))⟩
theorem TxAt.w_op {x : Nat → Int32} (h : TxAt g t tx ln wd ht fi la nx di op oc wh H) (hw : Wr g A H0 H (t + 8) (eI g 60 x) H1 locs) : TxAt g t tx ln wd ht fi la nx di x oc wh H1 ∧ va_S A H0 H1 locs := ⟨⟨(h.1).kept (hw.2.1 _ (by omega)), (h.2.1).kept (hw.2.1 _ (by omega)), (h.2.2.1).kept (hw.2.1 _ (by omega)), (h.2.2.2.1).kept (hw.2.1 _ (by omega)), (h.2.2.2.2.1).kept (hw.2.1 _ (by omega)), (h.2.2.2.2.2.1).kept (hw.2.1 _ (by omega)), (h.2.2.2.2.2.2.1).kept (hw.2.1 _ (by omega)), (h.2.2.2.2.2.2.2.1).kept (hw.2.1 _ (by omega)), hw.1⟩, hw.2.2.2⟩
theorem TxAt.f_op {x : Nat → Int32} (h : TxAt g t tx ln wd ht fi la nx di op oc wh H) (hf : Fr (ftA (fun q => q = t + 8) H.size) H H1) (hn : at_ g H1 (t + 8) (eI g 60 x)) : TxAt g t tx ln wd ht fi la nx di x oc wh H1 := by
  have hk : ∀ q : Nat, q < H.size → q ≠ t + 8 → H1[q]? = H[q]? := fun q a b => hf.2 q a (fun y => y.elim (fun y => b y) (fun y => by omega))
  exact ⟨(h.1).kept (hk _ (h.1).lt (by omega)), (h.2.1).kept (hk _ (h.2.1).lt (by omega)), (h.2.2.1).kept (hk _ (h.2.2.1).lt (by omega)), (h.2.2.2.1).kept (hk _ (h.2.2.2.1).lt (by omega)), (h.2.2.2.2.1).kept (hk _ (h.2.2.2.2.1).lt (by omega)), (h.2.2.2.2.2.1).kept (hk _ (h.2.2.2.2.2.1).lt (by omega)), (h.2.2.2.2.2.2.1).kept (hk _ (h.2.2.2.2.2.2.1).lt (by omega)), (h.2.2.2.2.2.2.2.1).kept (hk _ (h.2.2.2.2.2.2.2.1).lt (by omega)), hn⟩
end TXW
def rm_c_X9_isColour : Room := { frames := 0, cells := 0, slots := 0, locals := 0 }
set_option maxRecDepth 100000 in
set_option maxHeartbeats 400000 in
theorem c_X9_isColour (l : Launch) (g : GG) (H0 : Heap) (cc1 : Nat) (hcc : cc1 < 256) : Ct l yX9_isColour cX9_isColour 1 (some .boolean) rm_c_X9_isColour g [.int (nI cc1)] H0 (ftA (fun _ => False) H0.size) (fun v H1 => v = some (.int (bI (decide (97 ≤ cc1 ∧ cc1 ≤ 102)))) ∧ H0 = H1) := by
  refine Ct.of (by decide) (fun _ h => Or.inr h) (Nat.le_of_ble_eq_true rfl) ?_
  intro p e s m below meth c ls hB hin hS hH hl
  have hx := hB.x
  have hb := hB.b
  have hl : lv_has ls 1 [(0, .int (nI cc1))] := hl
  refine lv_iload_n hx hb dX9_isColour_0 rfl (lv_at hl 0 rfl) ?_
  refine lv_bipush (v := nI 97) hx hb dX9_isColour_1 (by decide) ?_
  refine mn_icmp_lt (tgt := 16) hB dX9_isColour_3 (by decide) (by omega) (by omega) (fun h_3 => ?_) (fun h_3 => ?_)
  · skip
    refine lv_iconst (v := nI 0) hx hb dX9_isColour_16 (by decide) ?_
    refine mh_zret hB ⟨Nat.le_of_ble_eq_true rfl, Nat.le_of_ble_eq_true rfl⟩ hS dX9_isColour_17 (by first | rfl | decide | (split <;> rfl)) ⟨?_, rfl⟩
    · first | (rw [show decide (97 ≤ cc1 ∧ cc1 ≤ 102) = true from decide_eq_true (by omega)]; rfl) | (rw [show decide (97 ≤ cc1 ∧ cc1 ≤ 102) = false from decide_eq_false (by omega)]; rfl)
  · skip
    refine lv_iload_n hx hb dX9_isColour_6 rfl (lv_at hl 0 rfl) ?_
    refine lv_bipush (v := nI 103) hx hb dX9_isColour_7 (by decide) ?_
    refine mn_icmp_ge (tgt := 16) hB dX9_isColour_9 (by decide) (by omega) (by omega) (fun h_9 => ?_) (fun h_9 => ?_)
    · skip
      refine lv_iconst (v := nI 0) hx hb dX9_isColour_16 (by decide) ?_
      refine mh_zret hB ⟨Nat.le_of_ble_eq_true rfl, Nat.le_of_ble_eq_true rfl⟩ hS dX9_isColour_17 (by first | rfl | decide | (split <;> rfl)) ⟨?_, rfl⟩
      · first | (rw [show decide (97 ≤ cc1 ∧ cc1 ≤ 102) = true from decide_eq_true (by omega)]; rfl) | (rw [show decide (97 ≤ cc1 ∧ cc1 ≤ 102) = false from decide_eq_false (by omega)]; rfl)
    · skip
      refine lv_iconst (v := nI 1) hx hb dX9_isColour_12 (by decide) ?_
      refine lv_goto (tgt := 17) hx hb dX9_isColour_13 (by decide) ?_
      refine mh_zret hB ⟨Nat.le_of_ble_eq_true rfl, Nat.le_of_ble_eq_true rfl⟩ hS dX9_isColour_17 (by first | rfl | decide | (split <;> rfl)) ⟨?_, rfl⟩
      · first | (rw [show decide (97 ≤ cc1 ∧ cc1 ≤ 102) = true from decide_eq_true (by omega)]; rfl) | (rw [show decide (97 ≤ cc1 ∧ cc1 ≤ 102) = false from decide_eq_false (by omega)]; rfl)

def rm_c_X9_isOpening : Room := { frames := 0, cells := 0, slots := 0, locals := 0 }
set_option maxRecDepth 100000 in
set_option maxHeartbeats 400000 in
theorem c_X9_isOpening (l : Launch) (g : GG) (H0 : Heap) (cc1 : Nat) (hcc : cc1 < 256) : Ct l yX9_isOpening cX9_isOpening 1 (some .boolean) rm_c_X9_isOpening g [.int (nI cc1)] H0 (ftA (fun _ => False) H0.size) (fun v H1 => v = some (.int (bI (decide (cc1 = 40 ∨ cc1 = 91)))) ∧ H0 = H1) := by
  refine Ct.of (by decide) (fun _ h => Or.inr h) (Nat.le_of_ble_eq_true rfl) ?_
  intro p e s m below meth c ls hB hin hS hH hl
  have hx := hB.x
  have hb := hB.b
  have hl : lv_has ls 1 [(0, .int (nI cc1))] := hl
  refine lv_iload_n hx hb dX9_isOpening_0 rfl (lv_at hl 0 rfl) ?_
  refine lv_bipush (v := nI 40) hx hb dX9_isOpening_1 (by decide) ?_
  refine mn_icmp_eq (tgt := 12) hB dX9_isOpening_3 (by decide) (by omega) (by omega) (fun h_3 => ?_) (fun h_3 => ?_)
  · skip
    refine lv_iconst (v := nI 1) hx hb dX9_isOpening_12 (by decide) ?_
    refine lv_goto (tgt := 17) hx hb dX9_isOpening_13 (by decide) ?_
    refine mh_zret hB ⟨Nat.le_of_ble_eq_true rfl, Nat.le_of_ble_eq_true rfl⟩ hS dX9_isOpening_17 (by first | rfl | decide | (split <;> rfl)) ⟨?_, rfl⟩
    · first | (rw [show decide (cc1 = 40 ∨ cc1 = 91) = true from decide_eq_true (by omega)]; rfl) | (rw [show decide (cc1 = 40 ∨ cc1 = 91) = false from decide_eq_false (by omega)]; rfl)
  · skip
    refine lv_iload_n hx hb dX9_isOpening_6 rfl (lv_at hl 0 rfl) ?_
    refine lv_bipush (v := nI 91) hx hb dX9_isOpening_7 (by decide) ?_
    refine mn_icmp_ne (tgt := 16) hB dX9_isOpening_9 (by decide) (by omega) (by omega) (fun h_9 => ?_) (fun h_9 => ?_)
    · skip
      refine lv_iconst (v := nI 0) hx hb dX9_isOpening_16 (by decide) ?_
      refine mh_zret hB ⟨Nat.le_of_ble_eq_true rfl, Nat.le_of_ble_eq_true rfl⟩ hS dX9_isOpening_17 (by first | rfl | decide | (split <;> rfl)) ⟨?_, rfl⟩
      · first | (rw [show decide (cc1 = 40 ∨ cc1 = 91) = true from decide_eq_true (by omega)]; rfl) | (rw [show decide (cc1 = 40 ∨ cc1 = 91) = false from decide_eq_false (by omega)]; rfl)
    · skip
      refine lv_iconst (v := nI 1) hx hb dX9_isOpening_12 (by decide) ?_
      refine lv_goto (tgt := 17) hx hb dX9_isOpening_13 (by decide) ?_
      refine mh_zret hB ⟨Nat.le_of_ble_eq_true rfl, Nat.le_of_ble_eq_true rfl⟩ hS dX9_isOpening_17 (by first | rfl | decide | (split <;> rfl)) ⟨?_, rfl⟩
      · first | (rw [show decide (cc1 = 40 ∨ cc1 = 91) = true from decide_eq_true (by omega)]; rfl) | (rw [show decide (cc1 = 40 ∨ cc1 = 91) = false from decide_eq_false (by omega)]; rfl)

def rm_c_X9_isPrefix : Room := { frames := 0, cells := 0, slots := 0, locals := 0 }
set_option maxRecDepth 100000 in
set_option maxHeartbeats 400000 in
theorem c_X9_isPrefix (l : Launch) (g : GG) (H0 : Heap) (cc1 : Nat) (hcc : cc1 < 256) : Ct l yX9_isPrefix cX9_isPrefix 1 (some .boolean) rm_c_X9_isPrefix g [.int (nI cc1)] H0 (ftA (fun _ => False) H0.size) (fun v H1 => v = some (.int (bI (decide (cc1 = 60 ∨ cc1 = 94 ∨ (50 ≤ cc1 ∧ cc1 ≤ 57))))) ∧ H0 = H1) := by
  refine Ct.of (by decide) (fun _ h => Or.inr h) (Nat.le_of_ble_eq_true rfl) ?_
  intro p e s m below meth c ls hB hin hS hH hl
  have hx := hB.x
  have hb := hB.b
  have hl : lv_has ls 1 [(0, .int (nI cc1))] := hl
  refine lv_iload_n hx hb dX9_isPrefix_0 rfl (lv_at hl 0 rfl) ?_
  refine lv_bipush (v := nI 60) hx hb dX9_isPrefix_1 (by decide) ?_
  refine mn_icmp_eq (tgt := 24) hB dX9_isPrefix_3 (by decide) (by omega) (by omega) (fun h_3 => ?_) (fun h_3 => ?_)
  · skip
    refine lv_iconst (v := nI 1) hx hb dX9_isPrefix_24 (by decide) ?_
    refine lv_goto (tgt := 29) hx hb dX9_isPrefix_25 (by decide) ?_
    refine mh_zret hB ⟨Nat.le_of_ble_eq_true rfl, Nat.le_of_ble_eq_true rfl⟩ hS dX9_isPrefix_29 (by first | rfl | decide | (split <;> rfl)) ⟨?_, rfl⟩
    · first | (rw [show decide (cc1 = 60 ∨ cc1 = 94 ∨ (50 ≤ cc1 ∧ cc1 ≤ 57)) = true from decide_eq_true (by omega)]; rfl) | (rw [show decide (cc1 = 60 ∨ cc1 = 94 ∨ (50 ≤ cc1 ∧ cc1 ≤ 57)) = false from decide_eq_false (by omega)]; rfl)
  · skip
    refine lv_iload_n hx hb dX9_isPrefix_6 rfl (lv_at hl 0 rfl) ?_
    refine lv_bipush (v := nI 94) hx hb dX9_isPrefix_7 (by decide) ?_
    refine mn_icmp_eq (tgt := 24) hB dX9_isPrefix_9 (by decide) (by omega) (by omega) (fun h_9 => ?_) (fun h_9 => ?_)
    · skip
      refine lv_iconst (v := nI 1) hx hb dX9_isPrefix_24 (by decide) ?_
      refine lv_goto (tgt := 29) hx hb dX9_isPrefix_25 (by decide) ?_
      refine mh_zret hB ⟨Nat.le_of_ble_eq_true rfl, Nat.le_of_ble_eq_true rfl⟩ hS dX9_isPrefix_29 (by first | rfl | decide | (split <;> rfl)) ⟨?_, rfl⟩
      · first | (rw [show decide (cc1 = 60 ∨ cc1 = 94 ∨ (50 ≤ cc1 ∧ cc1 ≤ 57)) = true from decide_eq_true (by omega)]; rfl) | (rw [show decide (cc1 = 60 ∨ cc1 = 94 ∨ (50 ≤ cc1 ∧ cc1 ≤ 57)) = false from decide_eq_false (by omega)]; rfl)
    · skip
      refine lv_iload_n hx hb dX9_isPrefix_12 rfl (lv_at hl 0 rfl) ?_
      refine lv_bipush (v := nI 50) hx hb dX9_isPrefix_13 (by decide) ?_
      refine mn_icmp_lt (tgt := 28) hB dX9_isPrefix_15 (by decide) (by omega) (by omega) (fun h_15 => ?_) (fun h_15 => ?_)
      · skip
        refine lv_iconst (v := nI 0) hx hb dX9_isPrefix_28 (by decide) ?_
        refine mh_zret hB ⟨Nat.le_of_ble_eq_true rfl, Nat.le_of_ble_eq_true rfl⟩ hS dX9_isPrefix_29 (by first | rfl | decide | (split <;> rfl)) ⟨?_, rfl⟩
        · first | (rw [show decide (cc1 = 60 ∨ cc1 = 94 ∨ (50 ≤ cc1 ∧ cc1 ≤ 57)) = true from decide_eq_true (by omega)]; rfl) | (rw [show decide (cc1 = 60 ∨ cc1 = 94 ∨ (50 ≤ cc1 ∧ cc1 ≤ 57)) = false from decide_eq_false (by omega)]; rfl)
      · skip
        refine lv_iload_n hx hb dX9_isPrefix_18 rfl (lv_at hl 0 rfl) ?_
        refine lv_bipush (v := nI 57) hx hb dX9_isPrefix_19 (by decide) ?_
        refine mn_icmp_gt (tgt := 28) hB dX9_isPrefix_21 (by decide) (by omega) (by omega) (fun h_21 => ?_) (fun h_21 => ?_)
        · skip
          refine lv_iconst (v := nI 0) hx hb dX9_isPrefix_28 (by decide) ?_
          refine mh_zret hB ⟨Nat.le_of_ble_eq_true rfl, Nat.le_of_ble_eq_true rfl⟩ hS dX9_isPrefix_29 (by first | rfl | decide | (split <;> rfl)) ⟨?_, rfl⟩
          · first | (rw [show decide (cc1 = 60 ∨ cc1 = 94 ∨ (50 ≤ cc1 ∧ cc1 ≤ 57)) = true from decide_eq_true (by omega)]; rfl) | (rw [show decide (cc1 = 60 ∨ cc1 = 94 ∨ (50 ≤ cc1 ∧ cc1 ≤ 57)) = false from decide_eq_false (by omega)]; rfl)
        · skip
          refine lv_iconst (v := nI 1) hx hb dX9_isPrefix_24 (by decide) ?_
          refine lv_goto (tgt := 29) hx hb dX9_isPrefix_25 (by decide) ?_
          refine mh_zret hB ⟨Nat.le_of_ble_eq_true rfl, Nat.le_of_ble_eq_true rfl⟩ hS dX9_isPrefix_29 (by first | rfl | decide | (split <;> rfl)) ⟨?_, rfl⟩
          · first | (rw [show decide (cc1 = 60 ∨ cc1 = 94 ∨ (50 ≤ cc1 ∧ cc1 ≤ 57)) = true from decide_eq_true (by omega)]; rfl) | (rw [show decide (cc1 = 60 ∨ cc1 = 94 ∨ (50 ≤ cc1 ∧ cc1 ≤ 57)) = false from decide_eq_false (by omega)]; rfl)

def rm_c_X9_setSize : Room := { frames := 0, cells := 0, slots := 0, locals := 0 }
set_option maxRecDepth 100000 in
set_option maxHeartbeats 400000 in
theorem c_X9_setSize (l : Launch) (g : GG) (H0 : Heap) (tb : Nat) (tx : Nat → Int32) (ln : Nat) (wd : Nat → Int32) (ht : Nat → Int32) (fi : Nat → Int32) (la : Nat → Int32) (nx : Nat → Int32) (di : Nat → Int32) (op : Nat → Int32) (oc : Int32) (wh : Int32) (e0 : Nat) (w0 : Nat) (h0 : Nat) (hT : TxAt g tb tx ln wd ht fi la nx di op oc wh H0) (he : e0 < 60) : Ct l yX9_setSize cX9_setSize 4 none rm_c_X9_setSize g [.ref tb, .int (nI e0), .int (nI w0), .int (nI h0)] H0 (ftA (fun q9 => tb ≤ q9 ∧ q9 < tb + 9) H0.size) (fun v H1 => v = none ∧ TxAt g tb tx ln (upd wd e0 (nI w0)) (upd ht e0 (nI h0)) fi la nx di op oc wh H1) := by
  refine Ct.of (by decide) (fun _ h => Or.inr h) (Nat.le_of_ble_eq_true rfl) ?_
  intro p e s m below meth c ls hB hin hS hH hl
  have hx := hB.x
  have hb := hB.b
  have hl : lv_has ls 4 [(0, .ref tb), (1, .int (nI e0)), (2, .int (nI w0)), (3, .int (nI h0))] := hl
  refine lv_iload_n hx hb dX9_setSize_0 rfl (lv_at hl 1 rfl) ?_
  refine mn_if_lt (tgt := 36) hB dX9_setSize_1 (by decide) (by omega) (fun h => by exfalso; omega) (fun h_1 => ?_)
  refine lv_iload_n hx hb dX9_setSize_4 rfl (lv_at hl 1 rfl) ?_
  refine lv_aload_n hx hb dX9_setSize_5 rfl (lv_at hl 0 rfl) ?_
  refine gf_X9_15 hB hT.1 rfl dX9_setSize_6 ?_
  refine mh_alen hB 0 rfl hT.a_wd dX9_setSize_9 ?_
  refine mn_icmp_ge (tgt := 36) hB dX9_setSize_10 (by decide) (by omega) (by omega) (fun h => by exfalso; omega) (fun h_10 => ?_)
  refine lv_iload_n hx hb dX9_setSize_13 rfl (lv_at hl 1 rfl) ?_
  refine lv_aload_n hx hb dX9_setSize_14 rfl (lv_at hl 0 rfl) ?_
  refine gf_X9_18 hB hT.1 rfl dX9_setSize_15 ?_
  refine mh_alen hB 0 rfl hT.a_ht dX9_setSize_18 ?_
  refine mn_icmp_ge (tgt := 36) hB dX9_setSize_19 (by decide) (by omega) (by omega) (fun h => by exfalso; omega) (fun h_19 => ?_)
  refine lv_aload_n hx hb dX9_setSize_22 rfl (lv_at hl 0 rfl) ?_
  refine gf_X9_15 hB hT.1 rfl dX9_setSize_23 ?_
  refine lv_iload_n hx hb dX9_setSize_26 rfl (lv_at hl 1 rfl) ?_
  refine lv_iload_n hx hb dX9_setSize_27 rfl (lv_at hl 2 rfl) ?_
  refine mn_iast hB hT.a_wd (by first | exact Or.inl rfl | (simp only [ftA]; omega) | (simp [ftA]; omega)) hS (by omega) (by omega) dX9_setSize_28 (fun H locs hwr => ?_)
  obtain ⟨hT, hS⟩ := hT.w_wd hwr
  refine lv_aload_n hx hb dX9_setSize_29 rfl (lv_at hl 0 rfl) ?_
  refine gf_X9_18 hB hT.1 rfl dX9_setSize_30 ?_
  refine lv_iload_n hx hb dX9_setSize_33 rfl (lv_at hl 1 rfl) ?_
  refine lv_iload_n hx hb dX9_setSize_34 rfl (lv_at hl 3 rfl) ?_
  refine mn_iast hB hT.a_ht (by first | exact Or.inl rfl | (simp only [ftA]; omega) | (simp [ftA]; omega)) hS (by omega) (by omega) dX9_setSize_35 (fun H locs hwr => ?_)
  obtain ⟨hT, hS⟩ := hT.w_ht hwr
  refine mh_vret hB ⟨Nat.le_of_ble_eq_true rfl, Nat.le_of_ble_eq_true rfl⟩ hS dX9_setSize_36 ⟨?_, ?_⟩
  · rfl
  · exact hT

def rm_c_X9_innermost_n : Room := { frames := 0, cells := 0, slots := 0, locals := 0 }
set_option maxRecDepth 100000 in
set_option maxHeartbeats 400000 in
theorem c_X9_innermost_n (l : Launch) (g : GG) (H0 : Heap) (tb : Nat) (tx : Nat → Int32) (ln : Nat) (wd : Nat → Int32) (ht : Nat → Int32) (fi : Nat → Int32) (la : Nat → Int32) (nx : Nat → Int32) (di : Nat → Int32) (op : Nat → Int32) (oc : Int32) (wh : Int32) (hT : TxAt g tb tx ln wd ht fi la nx di op oc wh H0) (hoc : oc = nI 0) : Ct l yX9_innermost cX9_innermost 1 (some .int) rm_c_X9_innermost_n g [.ref tb] H0 (ftA (fun _ => False) H0.size) (fun v H1 => v = some (.int (-9)) ∧ H0 = H1) := by
  refine Ct.of (by decide) (fun _ h => Or.inr h) (Nat.le_of_ble_eq_true rfl) ?_
  intro p e s m below meth c ls hB hin hS hH hl
  have hx := hB.x
  have hb := hB.b
  have hl : lv_has ls 1 [(0, .ref tb)] := hl
  refine lv_aload_n hx hb dX9_innermost_0 rfl (lv_at hl 0 rfl) ?_
  refine gf_X9_49 hB hT.1 rfl dX9_innermost_1 ?_
  refine mh_top (y := .int (nI 0)) (by rw [hoc]) ?_
  refine mn_if_le (tgt := 23) hB dX9_innermost_4 (by decide) (by omega) (fun h_4 => ?_) (fun h => by exfalso; omega)
  refine lv_bipush (v := (-9)) hx hb dX9_innermost_23 (by decide) ?_
  refine mh_iret hB ⟨Nat.le_of_ble_eq_true rfl, Nat.le_of_ble_eq_true rfl⟩ hS dX9_innermost_25 ⟨?_, rfl⟩
  · rfl

def rm_c_X9_innermost : Room := { frames := 1, cells := 0, slots := 0, locals := 21 }
set_option maxRecDepth 100000 in
set_option maxHeartbeats 400000 in
theorem c_X9_innermost (l : Launch) (g : GG) (H0 : Heap) (tb : Nat) (tx : Nat → Int32) (ln : Nat) (wd : Nat → Int32) (ht : Nat → Int32) (fi : Nat → Int32) (la : Nat → Int32) (nx : Nat → Int32) (di : Nat → Int32) (op : Nat → Int32) (oc : Int32) (wh : Int32) (n : Nat) (e0 : Nat) (hT : TxAt g tb tx ln wd ht fi la nx di op oc wh H0) (hoc : oc = nI (n + 1)) (hn : n < 60) (hop : op n = nI e0) : Ct l yX9_innermost cX9_innermost 1 (some .int) rm_c_X9_innermost g [.ref tb] H0 (ftA (fun _ => False) H0.size) (fun v H1 => v = some (.int (nI e0)) ∧ H0 = H1) := by
  refine Ct.of (by decide) (fun _ h => Or.inr h) (Nat.le_of_ble_eq_true rfl) ?_
  intro p e s m below meth c ls hB hin hS hH hl
  have hx := hB.x
  have hb := hB.b
  have hl : lv_has ls 1 [(0, .ref tb)] := hl
  refine lv_aload_n hx hb dX9_innermost_0 rfl (lv_at hl 0 rfl) ?_
  refine gf_X9_49 hB hT.1 rfl dX9_innermost_1 ?_
  refine mh_top (y := .int (nI (n + 1))) (by rw [hoc]) ?_
  refine mn_if_le (tgt := 23) hB dX9_innermost_4 (by decide) (by omega) (fun h => by exfalso; omega) (fun h_4 => ?_)
  refine lv_aload_n hx hb dX9_innermost_7 rfl (lv_at hl 0 rfl) ?_
  refine gf_X9_33 hB hT.1 rfl dX9_innermost_8 ?_
  refine lv_aload_n hx hb dX9_innermost_11 rfl (lv_at hl 0 rfl) ?_
  refine gf_X9_49 hB hT.1 rfl dX9_innermost_12 ?_
  refine mh_top (y := .int (nI (n + 1))) (by rw [hoc]) ?_
  refine lv_iconst (v := nI 1) hx hb dX9_innermost_15 (by decide) ?_
  refine mn_isub hB dX9_innermost_16 (by omega) ?_
  refine mh_top (y := .int (nI n)) (by rw [Nat.add_sub_cancel]) ?_
  refine cl_X9_56 (As := [.ref (tb + 8), .int (nI n)]) (rest := []) hB (c_X6_at l g H0 (tb + 8) 60 op n hT.a_op (hn) (by first | assumption | omega)) rfl hl.1 (Nat.le_of_ble_eq_true rfl) dX9_innermost_17 ⟨Nat.le_of_ble_eq_true rfl, Nat.le_of_ble_eq_true rfl⟩ ⟨Nat.le_of_ble_eq_true rfl, Nat.le_of_ble_eq_true rfl⟩ hS (by have hz9 := hS.1; rintro q (h | h) <;> first | exact Or.inr (by omega) | exact h.elim | exact Or.inl h | (simp only [ftA] at h ⊢; omega)) (fun v H1 locs hpo hfr hS => ?_)
  obtain ⟨rfl, rfl⟩ := hpo
  refine W.widen (k := 0) (n := 0) (Nat.le_of_ble_eq_true rfl) (Nat.le_of_ble_eq_true rfl) ?_
  refine mh_top (y := .int (nI e0)) (by rw [hop]) ?_
  refine lv_goto (tgt := 25) hx hb dX9_innermost_20 (by decide) ?_
  refine mh_iret hB ⟨Nat.le_of_ble_eq_true rfl, Nat.le_of_ble_eq_true rfl⟩ hS dX9_innermost_25 ⟨?_, rfl⟩
  · rfl

def rm_c_X9_openBlock : Room := { frames := 1, cells := 0, slots := 0, locals := 23 }
set_option maxRecDepth 100000 in
set_option maxHeartbeats 400000 in
theorem c_X9_openBlock (l : Launch) (g : GG) (H0 : Heap) (tb : Nat) (tx : Nat → Int32) (ln : Nat) (wd : Nat → Int32) (ht : Nat → Int32) (fi : Nat → Int32) (la : Nat → Int32) (nx : Nat → Int32) (di : Nat → Int32) (op : Nat → Int32) (oc : Int32) (wh : Int32) (n : Nat) (e0 : Nat) (hT : TxAt g tb tx ln wd ht fi la nx di op oc wh H0) (hoc : oc = nI n) (hn : n < 60) (he : e0 < 60) : Ct l yX9_openBlock cX9_openBlock 2 (some .int) rm_c_X9_openBlock g [.ref tb, .int (nI e0)] H0 (ftA (fun q9 => tb ≤ q9 ∧ q9 < tb + 9) H0.size) (fun v H1 => v = some (.int (-9)) ∧ TxAt g tb tx ln (upd wd e0 (nI 0)) (upd ht e0 (nI 0)) (upd fi e0 (-9)) (upd la e0 (-9)) (upd nx e0 (-9)) di (upd op n (nI e0)) (nI (n + 1)) wh H1) := by
  refine Ct.of (by decide) (fun _ h => Or.inr h) (Nat.le_of_ble_eq_true rfl) ?_
  intro p e s m below meth c ls hB hin hS hH hl
  have hx := hB.x
  have hb := hB.b
  have hl : lv_has ls 2 [(0, .ref tb), (1, .int (nI e0))] := hl
  refine lv_aload_n hx hb dX9_openBlock_0 rfl (lv_at hl 0 rfl) ?_
  refine lv_iload_n hx hb dX9_openBlock_1 rfl (lv_at hl 1 rfl) ?_
  refine lv_iconst (v := nI 0) hx hb dX9_openBlock_2 (by decide) ?_
  refine lv_iconst (v := nI 0) hx hb dX9_openBlock_3 (by decide) ?_
  refine cl_X9_88 (As := [.int (nI e0), .int (nI 0), .int (nI 0)]) (rest := []) hB (c_X9_setSize l g H0 tb tx ln wd ht fi la nx di op oc wh e0 0 0 hT (he)) hT.1 rfl hl.1 (Nat.le_of_ble_eq_true rfl) dX9_openBlock_4 ⟨Nat.le_of_ble_eq_true rfl, Nat.le_of_ble_eq_true rfl⟩ ⟨Nat.le_of_ble_eq_true rfl, Nat.le_of_ble_eq_true rfl⟩ hS (by have hz9 := hS.1; rintro q (h | h) <;> first | exact Or.inr (by omega) | exact h.elim | exact Or.inl h | (simp only [ftA] at h ⊢; omega)) (fun v H1 locs hpo hfr hS => ?_)
  obtain ⟨rfl, hT⟩ := hpo
  generalize H1 = H at hfr hS hT ⊢
  refine W.widen (k := 0) (n := 0) (Nat.le_of_ble_eq_true rfl) (Nat.le_of_ble_eq_true rfl) ?_
  refine lv_aload_n hx hb dX9_openBlock_7 rfl (lv_at hl 0 rfl) ?_
  refine gf_X9_21 hB hT.1 rfl dX9_openBlock_8 ?_
  refine lv_iload_n hx hb dX9_openBlock_11 rfl (lv_at hl 1 rfl) ?_
  refine lv_bipush (v := (-9)) hx hb dX9_openBlock_12 (by decide) ?_
  refine cl_X9_43 (As := [.ref (tb + 4), .int (nI e0), .int (-9)]) (rest := []) hB (c_X6_put l g H (tb + 4) 60 fi e0 (-9) hT.a_fi (by first | assumption | omega) (by first | assumption | omega)) rfl hl.1 (Nat.le_of_ble_eq_true rfl) dX9_openBlock_14 ⟨Nat.le_of_ble_eq_true rfl, Nat.le_of_ble_eq_true rfl⟩ ⟨Nat.le_of_ble_eq_true rfl, Nat.le_of_ble_eq_true rfl⟩ hS (by have hz9 := hS.1; rintro q (h | h) <;> first | exact Or.inr (by omega) | exact h.elim | exact Or.inl h | (simp only [ftA] at h ⊢; omega)) (fun v H1 locs hpo hfr hS => ?_)
  obtain ⟨rfl, ha⟩ := hpo
  have hT := hT.f_fi hfr ha
  generalize H1 = H at hfr hS hT ⊢
  refine W.widen (k := 0) (n := 0) (Nat.le_of_ble_eq_true rfl) (Nat.le_of_ble_eq_true rfl) ?_
  refine lv_aload_n hx hb dX9_openBlock_17 rfl (lv_at hl 0 rfl) ?_
  refine gf_X9_24 hB hT.1 rfl dX9_openBlock_18 ?_
  refine lv_iload_n hx hb dX9_openBlock_21 rfl (lv_at hl 1 rfl) ?_
  refine lv_bipush (v := (-9)) hx hb dX9_openBlock_22 (by decide) ?_
  refine cl_X9_43 (As := [.ref (tb + 5), .int (nI e0), .int (-9)]) (rest := []) hB (c_X6_put l g H (tb + 5) 60 la e0 (-9) hT.a_la (by first | assumption | omega) (by first | assumption | omega)) rfl hl.1 (Nat.le_of_ble_eq_true rfl) dX9_openBlock_24 ⟨Nat.le_of_ble_eq_true rfl, Nat.le_of_ble_eq_true rfl⟩ ⟨Nat.le_of_ble_eq_true rfl, Nat.le_of_ble_eq_true rfl⟩ hS (by have hz9 := hS.1; rintro q (h | h) <;> first | exact Or.inr (by omega) | exact h.elim | exact Or.inl h | (simp only [ftA] at h ⊢; omega)) (fun v H1 locs hpo hfr hS => ?_)
  obtain ⟨rfl, ha⟩ := hpo
  have hT := hT.f_la hfr ha
  generalize H1 = H at hfr hS hT ⊢
  refine W.widen (k := 0) (n := 0) (Nat.le_of_ble_eq_true rfl) (Nat.le_of_ble_eq_true rfl) ?_
  refine lv_aload_n hx hb dX9_openBlock_27 rfl (lv_at hl 0 rfl) ?_
  refine gf_X9_27 hB hT.1 rfl dX9_openBlock_28 ?_
  refine lv_iload_n hx hb dX9_openBlock_31 rfl (lv_at hl 1 rfl) ?_
  refine lv_bipush (v := (-9)) hx hb dX9_openBlock_32 (by decide) ?_
  refine cl_X9_43 (As := [.ref (tb + 6), .int (nI e0), .int (-9)]) (rest := []) hB (c_X6_put l g H (tb + 6) 60 nx e0 (-9) hT.a_nx (by first | assumption | omega) (by first | assumption | omega)) rfl hl.1 (Nat.le_of_ble_eq_true rfl) dX9_openBlock_34 ⟨Nat.le_of_ble_eq_true rfl, Nat.le_of_ble_eq_true rfl⟩ ⟨Nat.le_of_ble_eq_true rfl, Nat.le_of_ble_eq_true rfl⟩ hS (by have hz9 := hS.1; rintro q (h | h) <;> first | exact Or.inr (by omega) | exact h.elim | exact Or.inl h | (simp only [ftA] at h ⊢; omega)) (fun v H1 locs hpo hfr hS => ?_)
  obtain ⟨rfl, ha⟩ := hpo
  have hT := hT.f_nx hfr ha
  generalize H1 = H at hfr hS hT ⊢
  refine W.widen (k := 0) (n := 0) (Nat.le_of_ble_eq_true rfl) (Nat.le_of_ble_eq_true rfl) ?_
  refine lv_aload_n hx hb dX9_openBlock_37 rfl (lv_at hl 0 rfl) ?_
  refine gf_X9_33 hB hT.1 rfl dX9_openBlock_38 ?_
  refine lv_aload_n hx hb dX9_openBlock_41 rfl (lv_at hl 0 rfl) ?_
  refine gf_X9_49 hB hT.1 rfl dX9_openBlock_42 ?_
  refine mh_top (y := .int (nI n)) (by rw [hoc]) ?_
  refine lv_iload_n hx hb dX9_openBlock_45 rfl (lv_at hl 1 rfl) ?_
  refine cl_X9_43 (As := [.ref (tb + 8), .int (nI n), .int (nI e0)]) (rest := []) hB (c_X6_put l g H (tb + 8) 60 op n (nI e0) hT.a_op (by first | assumption | omega) (by first | assumption | omega)) rfl hl.1 (Nat.le_of_ble_eq_true rfl) dX9_openBlock_46 ⟨Nat.le_of_ble_eq_true rfl, Nat.le_of_ble_eq_true rfl⟩ ⟨Nat.le_of_ble_eq_true rfl, Nat.le_of_ble_eq_true rfl⟩ hS (by have hz9 := hS.1; rintro q (h | h) <;> first | exact Or.inr (by omega) | exact h.elim | exact Or.inl h | (simp only [ftA] at h ⊢; omega)) (fun v H1 locs hpo hfr hS => ?_)
  obtain ⟨rfl, ha⟩ := hpo
  have hT := hT.f_op hfr ha
  generalize H1 = H at hfr hS hT ⊢
  refine W.widen (k := 0) (n := 0) (Nat.le_of_ble_eq_true rfl) (Nat.le_of_ble_eq_true rfl) ?_
  refine lv_aload_n hx hb dX9_openBlock_49 rfl (lv_at hl 0 rfl) ?_
  refine lv_dup hx hb dX9_openBlock_50 rfl ?_
  refine gf_X9_49 hB hT.1 rfl dX9_openBlock_51 ?_
  refine mh_top (y := .int (nI n)) (by rw [hoc]) ?_
  refine lv_iconst (v := nI 1) hx hb dX9_openBlock_54 (by decide) ?_
  refine mn_iadd hB dX9_openBlock_55 ?_
  refine pf_X9_49 hB hT.1 (by first | exact Or.inl rfl | (simp only [ftA]; omega) | (simp [ftA]; omega)) hS rfl rfl (Nat.le_of_ble_eq_true rfl) dX9_openBlock_56 (fun H locs hwr => ?_)
  obtain ⟨hT, hS⟩ := hT.w_oc hwr
  refine lv_bipush (v := (-9)) hx hb dX9_openBlock_59 (by decide) ?_
  refine mh_iret hB ⟨Nat.le_of_ble_eq_true rfl, Nat.le_of_ble_eq_true rfl⟩ hS dX9_openBlock_61 ⟨?_, ?_⟩
  · rfl
  · exact hT
