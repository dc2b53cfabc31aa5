def xv (B : Nat) : Value → Value
  | .ref k => .ref (B + k)
  | .retAddr b => .ref b
  | v => v
def xva (B : Nat) (a : vp_A) : vp_A := match a with
  | (n, .inr (.inr (.inr (.inr f)))) => (n, .inr (.inr (.inr (.inr (fun j => (f j).map (B + ·))))))
  | x => x
abbrev XE : Type := (Nat × List Value) ⊕ (Nat × vp_A)
abbrev XH : Type := Nat → Option XE
def xcv (aT : Nat → ClassId) (B : Nat) : XE → va_E
  | .inl (ci, fs) => .inr (ci, fs.map (xv B))
  | .inr (t, a) => .inl (aT t, xva B a)
def XHp (D : va_G) (aT : Nat → ClassId) (B : Nat) (h : XH) (H : Heap) : Prop := ∀ (a : Nat) (e : XE), h a = some e → va_at D vwCl (B + a, xcv aT B e) H
def xup (h : XH) (a : Nat) (e : XE) : XH := fun b => if b = a then some e else h b
theorem xv_cat (B : Nat) (v : Value) : (xv B v).category = v.category := by cases v <;> rfl
theorem XHp.put {D : va_G} {aT : Nat → ClassId} {B : Nat} {h : XH} {H H1 : Heap} {a : Nat} {e : XE} (hP : XHp D aT B h H) (he : va_at D vwCl (B + a, xcv aT B e) H1) (oq : ∀ q : Nat, q ≠ B + a → H1[q]? = H[q]?) : XHp D aT B (xup h a e) H1 := by
  intro b x hb
  by_cases hq : b = a
  · subst hq
    simp [xup] at hb
    subst hb
    exact he
  · simp [xup, hq] at hb
    exact (hP b x hb).kept (oq _ (by show B + b ≠ B + a; omega))
theorem XHp.push {D : va_G} {aT : Nat → ClassId} {B : Nat} {h : XH} {H H1 : Heap} {n : Nat} {e : XE} (hP : XHp D aT B h H) (hz : H.size = B + n) (he : va_at D vwCl (B + n, xcv aT B e) H1) (oq : ∀ q : Nat, q < H.size → H1[q]? = H[q]?) : XHp D aT B (xup h n e) H1 := by
  intro b x hb
  by_cases hq : b = n
  · subst hq
    simp [xup] at hb
    subst hb
    exact he
  · simp [xup, hq] at hb
    exact (hP b x hb).kept (oq _ ((hP b x hb).lt))
theorem XHp.one {D : va_G} {aT : Nat → ClassId} {B : Nat} {h : XH} {H : Heap} {a : Nat} {e : XE} (hP : XHp D aT B h H) (he : h a = some e) : va_P D vwCl [(B + a, xcv aT B e)] H := by
  intro k q hk
  rcases k with _ | k
  · cases hk
    exact hP a e he
  · simp at hk
theorem va_S.grow {A : Nat → Prop} {H0 H H1 : Heap} {locs : List Loc} (h : va_S A H0 H locs) (z : H.size ≤ H1.size) (o1 : ∀ q : Nat, q < H.size → H1[q]? = H[q]?) : va_S A H0 H1 locs :=
  ⟨Nat.le_trans h.1 z, fun q h1 h2 => (o1 q (Nat.lt_of_lt_of_le h1 h.1)).trans (h.2.1 q h1 h2), h.2.2⟩
/-! locals -/
def xls (B : Nat) : Nat → List (Option Value) → List (Nat × Value)
  | _, [] => []
  | k, none :: t => xls B (k + 1) t
  | k, some v :: t => (k, xv B v) :: xls B (k + 1) t
def XL (B nL : Nat) (ls : Array Slot) (L : List (Option Value)) : Prop := lv_has ls nL (xls B 0 L)
theorem xls_mem (B : Nat) (L : List (Option Value)) : ∀ (k j : Nat) (w : Value), (j, w) ∈ xls B k L ↔ ∃ (i : Nat) (v : Value), L[i]? = some (some v) ∧ j = k + i ∧ w = xv B v := by
  induction L with
  | nil => intro k j w; simp [xls]
  | cons a t ih =>
    intro k j w
    have key : (∃ (i : Nat) (v : Value), (a :: t)[i]? = some (some v) ∧ j = k + i ∧ w = xv B v) ↔ (∃ v, a = some v ∧ j = k ∧ w = xv B v) ∨ ∃ (i : Nat) (v : Value), t[i]? = some (some v) ∧ j = k + 1 + i ∧ w = xv B v := by
      constructor
      · rintro ⟨i, v, h1, h2, h3⟩
        rcases i with _ | i
        · left
          simp at h1
          exact ⟨v, h1, by omega, h3⟩
        · right
          rw [List.getElem?_cons_succ] at h1
          exact ⟨i, v, h1, by omega, h3⟩
      · rintro (⟨v, h1, h2, h3⟩ | ⟨i, v, h1, h2, h3⟩)
        · exact ⟨0, v, by simp [h1], by omega, h3⟩
        · exact ⟨i + 1, v, by rw [List.getElem?_cons_succ]; exact h1, by omega, h3⟩
    rw [key]
    cases a with
    | none => simp only [xls, ih]; simp
    | some v =>
      simp only [xls, List.mem_cons, ih, Prod.mk.injEq]
      constructor
      · rintro (⟨h1, h2⟩ | h)
        · exact Or.inl ⟨v, rfl, h1, h2⟩
        · exact Or.inr h
      · rintro (⟨v', h0, h1, h2⟩ | h)
        · cases h0; exact Or.inl ⟨h1, h2⟩
        · exact Or.inr h
theorem XL.at {B nL : Nat} {ls : Array Slot} {L : List (Option Value)} {i : Nat} {v : Value} (h : XL B nL ls L) (hi : L[i]? = some (some v)) : ls[i]? = some (.val (xv B v)) :=
  h.2.2 (i, xv B v) ((xls_mem B L 0 i (xv B v)).mpr ⟨i, v, hi, by omega, rfl⟩)
theorem XL.sub {B nL : Nat} {ls : Array Slot} {L L' : List (Option Value)} (h : XL B nL ls L) (hs : ∀ (i : Nat) (v : Value), L'[i]? = some (some v) → L[i]? = some (some v)) : XL B nL ls L' := by
  refine ⟨h.1, h.2.1, fun q hq => ?_⟩
  obtain ⟨j, w⟩ := q
  obtain ⟨i, v, h1, h2, h3⟩ := (xls_mem B L' 0 j w).mp hq
  subst h3
  rw [Nat.zero_add] at h2
  subst h2
  exact h.at (hs _ v h1)
def xsub : List (Option Value) → List (Option Value) → Prop
  | [], _ => True
  | a :: t, [] => a = none ∧ xsub t []
  | a :: t, b :: u => (a = none ∨ a = b) ∧ xsub t u
theorem xsub_at : ∀ (L' L : List (Option Value)), xsub L' L → ∀ (i : Nat) (v : Value), L'[i]? = some (some v) → L[i]? = some (some v)
  | [], _, _, i, v, h => by simp at h
  | a :: t, [], hs, i, v, h => by
    rcases i with _ | i
    · simp [hs.1] at h
    · rw [List.getElem?_cons_succ] at h
      have := xsub_at t [] hs.2 i v h
      simp at this
  | a :: t, b :: u, hs, i, v, h => by
    rcases i with _ | i
    · simp at h
      rcases hs.1 with q | q
      · rw [h] at q; cases q
      · simp [← q, h]
    · rw [List.getElem?_cons_succ] at h ⊢
      exact xsub_at t u hs.2 i v h
def xst (L : List (Option Value)) (i : Nat) (v : Value) : List (Option Value) :=
  match i with
  | 0 => L.set 0 (some v)
  | j + 1 => match L[j]? with
    | some (some w) => if w.category = 2 then (L.set j none).set (j + 1) (some v) else L.set (j + 1) (some v)
    | _ => L.set (j + 1) (some v)
theorem xset_at {L : List (Option Value)} {i q : Nat} {v u : Value} (h : (L.set i (some v))[q]? = some (some u)) : (q = i ∧ u = v) ∨ (q ≠ i ∧ L[q]? = some (some u)) := by
  by_cases hq : q = i
  · subst hq
    left
    rw [List.getElem?_set] at h
    simp at h
    exact ⟨rfl, h.2.symm⟩
  · right
    rw [List.getElem?_set_ne (Ne.symm hq)] at h
    exact ⟨hq, h⟩
theorem xset_none {L : List (Option Value)} {i q : Nat} {u : Value} (h : (L.set i none)[q]? = some (some u)) : q ≠ i ∧ L[q]? = some (some u) := by
  by_cases hq : q = i
  · subst hq
    rw [List.getElem?_set] at h
    simp at h
  · rw [List.getElem?_set_ne (Ne.symm hq)] at h
    exact ⟨hq, h⟩
theorem xst_at {L : List (Option Value)} {i q : Nat} {v u : Value} (h : (xst L i v)[q]? = some (some u)) : (q = i ∧ u = v) ∨ (q ≠ i ∧ L[q]? = some (some u) ∧ ¬ (q + 1 = i ∧ u.category = 2)) := by
  rcases i with _ | j
  · rcases xset_at h with ⟨a, b⟩ | ⟨a, b⟩
    · exact Or.inl ⟨a, b⟩
    · exact Or.inr ⟨a, b, fun q => by omega⟩
  · unfold xst at h
    cases hj : L[j]? with
    | none =>
      simp only [hj] at h
      rcases xset_at h with ⟨a, b⟩ | ⟨a, b⟩
      · exact Or.inl ⟨a, b⟩
      · exact Or.inr ⟨a, b, fun q' => by
          have : q = j := by omega
          subst this
          rw [hj] at b; cases b⟩
    | some o =>
      cases o with
      | none =>
        simp only [hj] at h
        rcases xset_at h with ⟨a, b⟩ | ⟨a, b⟩
        · exact Or.inl ⟨a, b⟩
        · exact Or.inr ⟨a, b, fun q' => by
            have : q = j := by omega
            subst this
            rw [hj] at b; cases b⟩
      | some w =>
        simp only [hj] at h
        by_cases hc : w.category = 2
        · rw [if_pos hc] at h
          rcases xset_at h with ⟨a, b⟩ | ⟨a, b⟩
          · exact Or.inl ⟨a, b⟩
          · obtain ⟨b1, b2⟩ := xset_none b
            exact Or.inr ⟨a, b2, fun q' => by omega⟩
        · rw [if_neg hc] at h
          rcases xset_at h with ⟨a, b⟩ | ⟨a, b⟩
          · exact Or.inl ⟨a, b⟩
          · exact Or.inr ⟨a, b, fun q' => by
              have : q = j := by omega
              subst this
              rw [hj] at b
              cases b
              exact hc q'.2⟩
def xst2 (L : List (Option Value)) (i : Nat) (v : Value) : List (Option Value) := (xst L i v).set (i + 1) none
theorem XL.st1 {B nL : Nat} {ls : Array Slot} {L : List (Option Value)} {i : Nat} {v : Value} (h : lv_has ls nL ((i, xv B v) :: (xls B 0 L).filter (fun q => !(q.1 == i) && !(q.1 + 1 == i && q.2.category == 2)))) : XL B nL ls (xst L i v) := by
  refine ⟨h.1, h.2.1, fun q hq => ?_⟩
  obtain ⟨j, w⟩ := q
  obtain ⟨i', v', h1, h2, h3⟩ := (xls_mem B _ 0 j w).mp hq
  refine h.2.2 (j, w) ?_
  rw [Nat.zero_add] at h2
  subst h2 h3
  rcases xst_at h1 with ⟨a, b⟩ | ⟨a, b, d⟩
  · subst a; subst b; exact List.mem_cons_self
  · refine List.mem_cons_of_mem _ (List.mem_filter.mpr ⟨(xls_mem B L 0 _ _).mpr ⟨j, v', b, by omega, rfl⟩, ?_⟩)
    simp only [xv_cat]
    by_cases hj : j + 1 = i
    · have : ¬ v'.category = 2 := fun z => d ⟨hj, z⟩
      simp [a, this]
    · simp [a, hj]
theorem XL.st2 {B nL : Nat} {ls : Array Slot} {L : List (Option Value)} {i : Nat} {v : Value} (h : lv_has ls nL ((i, xv B v) :: (xls B 0 L).filter (fun q => !(q.1 == i) && (!(q.1 == i + 1) && !(q.1 + 1 == i && q.2.category == 2))))) : XL B nL ls (xst2 L i v) := by
  refine ⟨h.1, h.2.1, fun q hq => ?_⟩
  obtain ⟨j, w⟩ := q
  obtain ⟨i', v', h1, h2, h3⟩ := (xls_mem B _ 0 j w).mp hq
  refine h.2.2 (j, w) ?_
  rw [Nat.zero_add] at h2
  subst h2 h3
  obtain ⟨g, h1⟩ := xset_none h1
  rcases xst_at h1 with ⟨a, b⟩ | ⟨a, b, d⟩
  · subst a; subst b; exact List.mem_cons_self
  · refine List.mem_cons_of_mem _ (List.mem_filter.mpr ⟨(xls_mem B L 0 _ _).mpr ⟨j, v', b, by omega, rfl⟩, ?_⟩)
    simp only [xv_cat]
    by_cases hj : j + 1 = i
    · have : ¬ v'.category = 2 := fun z => d ⟨hj, z⟩
      simp [a, this, g]
    · simp [a, hj, g]
def xent : List Value → List (Option Value)
  | [] => []
  | v :: t => if v.category = 2 then some v :: none :: xent t else some v :: xent t
theorem xls_ent (B : Nat) (av : List Value) : ∀ k, xls B k (xent av) = lv_args k (av.map (xv B)) := by
  induction av with
  | nil => intro k; rfl
  | cons v t ih =>
    intro k
    by_cases h : v.category = 2
    · simp only [xent, if_pos h, xls, List.map_cons, lv_args, xv_cat, ih]
    · simp only [xent, if_neg h, xls, List.map_cons, lv_args, xv_cat, ih]
theorem xls_pad (B : Nat) (L : List (Option Value)) (j : Nat) : ∀ q ∈ xls B 0 (L ++ List.replicate j none), q ∈ xls B 0 L := by
  rintro ⟨a, w⟩ hq
  obtain ⟨i, v, h1, h2, h3⟩ := (xls_mem B _ 0 a w).mp hq
  refine (xls_mem B L 0 a w).mpr ⟨i, v, ?_, h2, h3⟩
  by_cases hi : i < L.length
  · rw [List.getElem?_append_left hi] at h1; exact h1
  · rw [List.getElem?_append_right (by omega), List.getElem?_replicate] at h1
    split at h1 <;> simp at h1
/-! the words of the tables, the nest's words -/
def tblG : List Cond := lw_tbl.filter goodWord
def isNest : Cond → Bool
  | .methodLinkNest .. => true
  | _ => false
def nestG : List Cond := lw_tbl.filter isNest
theorem tblG_sub : ∀ w ∈ tblG, w ∈ lw_tbl := fun w h => (List.mem_filter.mp h).1
theorem tblG_good : ∀ w ∈ tblG, goodWord w = true := fun w h => (List.mem_filter.mp h).2
theorem inG (i : Nat) {w : Cond} (h : lw_tbl[i]? = some w) (hg : goodWord w = true) : w ∈ tblG := List.mem_filter.mpr ⟨List.mem_of_getElem? h, hg⟩
theorem inN (i : Nat) {w : Cond} (h : lw_tbl[i]? = some w) (hg : isNest w = true) : w ∈ nestG := List.mem_filter.mpr ⟨List.mem_of_getElem? h, hg⟩
def tysX (aT : Nat → ClassId) : List (ClassId × FieldType) := [(aT 0, .int), (aT 1, .int), (aT 2, .object RX5)]
def XK (D : va_G) (aT : Nat → ClassId) (U : State) : Prop := va_K D vwCl (tysX aT) U ∧ (∀ w ∈ nestG, va_Nw w U) ∧ va_AO RX5 U
theorem nest_warm {w : Cond} (hw : isNest w = true) {s U : State} (hW : s.WarmedH U.vm) (h : va_Nw w s) : va_Nw w U := by
  cases w <;> first | (simp [isNest] at hw; done) | exact va_Nw.warmM hW h
theorem nest_tab {w : Cond} (hw : isNest w = true) : w.onTables = true := by
  cases w <;> first | (simp [isNest] at hw; done) | rfl
theorem XK.warm {D : va_G} {aT : Nat → ClassId} {s U : State} (hW : s.WarmedH U.vm) (h : XK D aT s) : XK D aT U :=
  ⟨va_K.moved hW.alike h.1, fun w hw => nest_warm (List.mem_filter.mp hw).2 hW (h.2.1 w hw), h.2.2.moved hW.alike⟩
theorem XK.same {D : va_G} {aT : Nat → ClassId} {s U : State} (hv : s.vm = U.vm) (h : XK D aT s) : XK D aT U :=
  ⟨va_K.moved (by rw [hv]; exact Vm.Alike.refl _) h.1, fun w hw => va_Nw.same (nest_tab (List.mem_filter.mp hw).2) hv (h.2.1 w hw), h.2.2.moved (by rw [hv]; exact Vm.Alike.refl _)⟩
/-! a method's start and end, the frame's context -/
def XP (D : va_G) (aT : Nat → ClassId) (B : Nat) (av : List Value) (h : XH) (n : Nat) : Array Value → State → Prop := fun v U => v = (av.map (xv B)).toArray ∧ XHp D aT B h U.heap ∧ U.heap.size = B + n ∧ XK D aT U
def XQ (D : va_G) (aT : Nat → ClassId) (B : Nat) (r : Option Value) (h' : XH) (n' : Nat) : Array Value → State → Outcome → State → Prop := fun _ st o t => o = .returned (r.map (xv B)) ∧ XHp D aT B h' t.heap ∧ t.heap.size = B + n' ∧ va_F (fun q => B ≤ q) st t
abbrev XCtx : Type := (Program × Launch × Env × Room) × (State × MethodId × Array Value × List Frame) × (Method × Code) × (va_G × (Nat → ClassId) × Nat) × (Nat × Nat) × (Nat × Nat) × (State → Prop)
def XW (X : XCtx) (pc : Nat) (L : List (Option Value)) (st : List Value) (h : XH) (n sl : Nat) : Prop := match X with
  | ((p, l, e, R), (s, m, args, below), (meth, c), (D, aT, B), (n0, sl0), (_, _), Qx) =>
    ∀ (H : Heap) (locs : List Loc) (ls : Array Slot) (k z : Nat), XL B c.maxLocals ls L → XHp D aT B h H → H.size = B + n → va_S (fun q => B ≤ q) s.heap H locs → n = n0 + k → sl = sl0 + z →
      W p l e R s m args below meth c H locs k z Qx (F0 m pc ls (st.map (xv B)))
def XOK (X : XCtx) (own : String) (cc : ByteArray) (nL : Nat) (nm : String) (ret : Option FieldType) (fr lo : Nat) : Prop := match X with
  | ((p, _, _, R), (s, m, args, _), (meth, c), (D, aT, B), (n0, sl0), (n', sl'), _) =>
    p.tables.exec = Jvm.exec ∧ c.code = cc ∧ c.maxLocals = nL ∧ meth.sig.returnType = ret ∧ meth.locks = false ∧ s.vm.findClass own = some m.cls ∧ meth.name = nm ∧ (∀ w ∈ tblG, w.before args s = true) ∧ XK D aT s ∧ R.frames = fr ∧ R.locals = lo ∧ R.cells = n' - n0 ∧ R.slots = sl' - sl0 ∧ B ≤ s.heap.size
/-- what the context says of the end -/
def XR (X : XCtx) (r : Option Value) (h' : XH) (n' sl' : Nat) : Prop := match X with
  | ((_, _, _, _), (s, _, args, below), (_, _), (D, aT, B), (n0, sl0), (_, _), Qx) => Qx = MQ below (XQ D aT B r h' n') args s (n' - n0) (sl' - sl0) (fun q => B ≤ q)
def XN (X : XCtx) (n sl : Nat) : Prop := n ≤ X.2.2.2.2.2.1.1 ∧ sl ≤ X.2.2.2.2.2.1.2
def XT (X : XCtx) (l : Launch) (r : Option Value) (h' : XH) (n' sl' : Nat) : Prop := X.1.2.1 = l ∧ XN X n' sl' ∧ XR X r h' n' sl'
def XM (l : Launch) (y : MethodName) (bytes : ByteArray) (maxL : Nat) (ret : Option FieldType) (fr lo : Nat) (av : List Value) (h : XH) (n sl : Nat) (r : Option Value) (h' : XH) (n' sl' : Nat) : Prop :=
  ∀ (D : va_G) (aT : Nat → ClassId) (B : Nat), Met l y (Cond.code y bytes maxL ret :: tblG) { frames := fr, cells := n' - n, slots := sl' - sl, locals := lo } (XP D aT B av h n) (XQ D aT B r h' n') (n' - n) (sl' - sl) (fun q => B ≤ q)
theorem xm_of {l : Launch} {y : MethodName} {bytes : ByteArray} {maxL : Nat} {ret : Option FieldType} {fr lo : Nat} {av : List Value} {h : XH} {n sl : Nat} {r : Option Value} {h' : XH} {n' sl' : Nat} (hy : plainName y.cls = true) (L : List (Option Value)) (j : Nat) (hLe : xent av ++ List.replicate j none = L) (hlen : (xent av).length ≤ maxL)
    (body : ∀ X : XCtx, XT X l r h' n' sl' → XOK X y.cls bytes maxL y.name ret fr lo → XW X 0 L [] h n sl) : XM l y bytes maxL ret fr lo av h n sl r h' n' sl' := by
  intro D aT B
  refine Met.ofW (cc := bytes) (maxL := maxL) (ret := ret) hy rfl ?_
  intro p e s m args below meth c s₁ BL hml hv
  obtain ⟨rfl, hH, hz, hK⟩ := hv
  have hts0 := atoms_spec (ws := Cond.code y bytes maxL ret :: tblG) BL.pre
  have hts : ∀ w ∈ tblG, w.before (av.map (xv B)).toArray s = true := fun w hw => hts0 w (List.mem_cons_of_mem _ hw)
  have hown : s.vm.findClass y.cls = some m.cls := findClass_of_methodNamed BL.named
  have hnm : meth.name = y.name := (name_of_methodNamed BL.named BL.method).1
  have hsl : (lg_sl (av.map (xv B))).length = (xent av).length := by
    have : ∀ vs : List Value, (lg_sl (vs.map (xv B))).length = (xent vs).length := by
      intro vs
      induction vs with
      | nil => rfl
      | cons v t ih =>
        simp only [lg_sl] at ih
        by_cases q : v.category = 2 <;> simp [lg_sl, xent, q, xv_cat, ih]
    exact this av
  have hl := lv_entry (av.map (xv B)) (n := maxL) (by rw [hsl]; exact hlen)
  rw [lg_entry_eq]
  generalize (lg_sl (av.map (xv B)) ++ List.replicate (maxL - (lg_sl (av.map (xv B))).length) Slot.unset).toArray = ls at hl ⊢
  have hXL : XL B c.maxLocals ls L := by
    rw [hml]
    refine ⟨hl.1, hl.2.1, fun q hq => hl.2.2 q ?_⟩
    rw [← hLe] at hq
    rw [← xls_ent]
    exact xls_pad B _ j q hq
  have hB : B ≤ s.heap.size := by rw [hz]; exact Nat.le_add_right _ _
  have w := body ((p, l, e, (headSpec (Cond.code y bytes maxL ret :: tblG) { frames := fr, cells := n' - n, slots := sl' - sl, locals := lo }).room), (s, m, (av.map (xv B)).toArray, below), (meth, c), (D, aT, B), (n, sl), (n', sl'), MQ below (XQ D aT B r h' n') (av.map (xv B)).toArray s (n' - n) (sl' - sl) (fun q => B ≤ q)) ⟨rfl, ⟨Nat.le_refl _, Nat.le_refl _⟩, rfl⟩ ⟨BL.exec, BL.bytes, hml, BL.returns, BL.notSynchronized, hown, hnm, hts, hK, rfl, rfl, rfl, rfl, hB⟩
  exact w s.heap [] ls 0 0 hXL hH hz va_S.rf rfl rfl
/-- the law's script, as the context has it -/
def XSc (X : XCtx) (b N0 : Nat) (xs : Nat → Int32) : Prop := match X with
  | (_, (s, _, _, _), _, (_, _, B), _, _, _) => va_X b N0 xs s s.heap ∧ b < s.heap.size ∧ ¬ B ≤ b
def XPS (D : va_G) (aT : Nat → ClassId) (B b N0 : Nat) (xs : Nat → Int32) (av : List Value) (h : XH) (n : Nat) : Array Value → State → Prop := fun v U => XP D aT B av h n v U ∧ va_X b N0 xs U U.heap ∧ b < U.heap.size ∧ ¬ B ≤ b
def XMS (l : Launch) (y : MethodName) (bytes : ByteArray) (maxL : Nat) (ret : Option FieldType) (fr lo : Nat) (b N0 : Nat) (xs : Nat → Int32) (av : List Value) (h : XH) (n sl : Nat) (r : Option Value) (h' : XH) (n' sl' : Nat) : Prop :=
  ∀ (D : va_G) (aT : Nat → ClassId) (B : Nat), Met l y (Cond.code y bytes maxL ret :: tblG) { frames := fr, cells := n' - n, slots := sl' - sl, locals := lo } (XPS D aT B b N0 xs av h n) (XQ D aT B r h' n') (n' - n) (sl' - sl) (fun q => B ≤ q)
theorem xm_ofS {l : Launch} {y : MethodName} {bytes : ByteArray} {maxL : Nat} {ret : Option FieldType} {fr lo : Nat} {b N0 : Nat} {xs : Nat → Int32} {av : List Value} {h : XH} {n sl : Nat} {r : Option Value} {h' : XH} {n' sl' : Nat} (hy : plainName y.cls = true) (L : List (Option Value)) (j : Nat) (hLe : xent av ++ List.replicate j none = L) (hlen : (xent av).length ≤ maxL)
    (body : ∀ X : XCtx, XT X l r h' n' sl' → XOK X y.cls bytes maxL y.name ret fr lo → XSc X b N0 xs → XW X 0 L [] h n sl) : XMS l y bytes maxL ret fr lo b N0 xs av h n sl r h' n' sl' := by
  intro D aT B
  refine Met.ofW (cc := bytes) (maxL := maxL) (ret := ret) hy rfl ?_
  intro p e s m args below meth c s₁ BL hml hv
  obtain ⟨⟨rfl, hH, hz, hK⟩, hX1, hX2, hX3⟩ := hv
  have hts0 := atoms_spec (ws := Cond.code y bytes maxL ret :: tblG) BL.pre
  have hts : ∀ w ∈ tblG, w.before (av.map (xv B)).toArray s = true := fun w hw => hts0 w (List.mem_cons_of_mem _ hw)
  have hown : s.vm.findClass y.cls = some m.cls := findClass_of_methodNamed BL.named
  have hnm : meth.name = y.name := (name_of_methodNamed BL.named BL.method).1
  have hsl : (lg_sl (av.map (xv B))).length = (xent av).length := by
    have : ∀ vs : List Value, (lg_sl (vs.map (xv B))).length = (xent vs).length := by
      intro vs
      induction vs with
      | nil => rfl
      | cons v t ih =>
        simp only [lg_sl] at ih
        by_cases q : v.category = 2 <;> simp [lg_sl, xent, q, xv_cat, ih]
    exact this av
  have hl := lv_entry (av.map (xv B)) (n := maxL) (by rw [hsl]; exact hlen)
  rw [lg_entry_eq]
  generalize (lg_sl (av.map (xv B)) ++ List.replicate (maxL - (lg_sl (av.map (xv B))).length) Slot.unset).toArray = ls at hl ⊢
  have hXL : XL B c.maxLocals ls L := by
    rw [hml]
    refine ⟨hl.1, hl.2.1, fun q hq => hl.2.2 q ?_⟩
    rw [← hLe] at hq
    rw [← xls_ent]
    exact xls_pad B _ j q hq
  have hB : B ≤ s.heap.size := by rw [hz]; exact Nat.le_add_right _ _
  have w := body ((p, l, e, (headSpec (Cond.code y bytes maxL ret :: tblG) { frames := fr, cells := n' - n, slots := sl' - sl, locals := lo }).room), (s, m, (av.map (xv B)).toArray, below), (meth, c), (D, aT, B), (n, sl), (n', sl'), MQ below (XQ D aT B r h' n') (av.map (xv B)).toArray s (n' - n) (sl' - sl) (fun q => B ≤ q)) ⟨rfl, ⟨Nat.le_refl _, Nat.le_refl _⟩, rfl⟩ ⟨BL.exec, BL.bytes, hml, BL.returns, BL.notSynchronized, hown, hnm, hts, hK, rfl, rfl, rfl, rfl, hB⟩ ⟨hX1, hX2, hX3⟩
  exact w s.heap [] ls 0 0 hXL hH hz va_S.rf rfl rfl

theorem xw_iconst {X : XCtx} {own : String} {cc : ByteArray} {nL : Nat} {nm : String} {ret : Option FieldType} {fr lo : Nat} (C : XOK X own cc nL nm ret fr lo) {pc : Nat} {L : List (Option Value)} {st : List Value} {h : XH} {n sl : Nat} {i : Int} {v : Int32} (d : decode cc pc = .ok (.iconst i, 1)) (hv : Int32.ofInt i = v) (kk : XW X (pc + 1) L (.int v :: st) h n sl) : XW X pc L st h n sl := by
  obtain ⟨⟨p, l, e, R⟩, ⟨s, m, args, below⟩, ⟨meth, c⟩, ⟨D, aT, B⟩, ⟨n0, sl0⟩, ⟨nC, sC⟩, Qx⟩ := X
  obtain ⟨hx, hb, hml, hr, hlk, hown, hnm, hts, hK, hF, hL, hRc, hRs, hB⟩ := C
  intro H locs ls kc z h1 h2 h3 h4 h5 h6
  exact lv_iconst hx hb d hv (kk H locs ls kc z h1 h2 h3 h4 h5 h6)
theorem xw_bipush {X : XCtx} {own : String} {cc : ByteArray} {nL : Nat} {nm : String} {ret : Option FieldType} {fr lo : Nat} (C : XOK X own cc nL nm ret fr lo) {pc : Nat} {L : List (Option Value)} {st : List Value} {h : XH} {n sl : Nat} {i : Int} {v : Int32} (d : decode cc pc = .ok (.bipush i, 2)) (hv : (Int8.ofInt i).toInt32 = v) (kk : XW X (pc + 2) L (.int v :: st) h n sl) : XW X pc L st h n sl := by
  obtain ⟨⟨p, l, e, R⟩, ⟨s, m, args, below⟩, ⟨meth, c⟩, ⟨D, aT, B⟩, ⟨n0, sl0⟩, ⟨nC, sC⟩, Qx⟩ := X
  obtain ⟨hx, hb, hml, hr, hlk, hown, hnm, hts, hK, hF, hL, hRc, hRs, hB⟩ := C
  intro H locs ls kc z h1 h2 h3 h4 h5 h6
  exact lv_bipush hx hb d hv (kk H locs ls kc z h1 h2 h3 h4 h5 h6)
theorem xw_sipush {X : XCtx} {own : String} {cc : ByteArray} {nL : Nat} {nm : String} {ret : Option FieldType} {fr lo : Nat} (C : XOK X own cc nL nm ret fr lo) {pc : Nat} {L : List (Option Value)} {st : List Value} {h : XH} {n sl : Nat} {i : Int} {v : Int32} (d : decode cc pc = .ok (.sipush i, 3)) (hv : (Int16.ofInt i).toInt32 = v) (kk : XW X (pc + 3) L (.int v :: st) h n sl) : XW X pc L st h n sl := by
  obtain ⟨⟨p, l, e, R⟩, ⟨s, m, args, below⟩, ⟨meth, c⟩, ⟨D, aT, B⟩, ⟨n0, sl0⟩, ⟨nC, sC⟩, Qx⟩ := X
  obtain ⟨hx, hb, hml, hr, hlk, hown, hnm, hts, hK, hF, hL, hRc, hRs, hB⟩ := C
  intro H locs ls kc z h1 h2 h3 h4 h5 h6
  exact lv_sipush hx hb d hv (kk H locs ls kc z h1 h2 h3 h4 h5 h6)
theorem xw_lconst {X : XCtx} {own : String} {cc : ByteArray} {nL : Nat} {nm : String} {ret : Option FieldType} {fr lo : Nat} (C : XOK X own cc nL nm ret fr lo) {pc : Nat} {L : List (Option Value)} {st : List Value} {h : XH} {n sl : Nat} {i : Fin 2} {v : Int64} (d : decode cc pc = .ok (.lconst i, 1)) (hv : Int64.ofNat (i : Nat) = v) (kk : XW X (pc + 1) L (.long v :: st) h n sl) : XW X pc L st h n sl := by
  obtain ⟨⟨p, l, e, R⟩, ⟨s, m, args, below⟩, ⟨meth, c⟩, ⟨D, aT, B⟩, ⟨n0, sl0⟩, ⟨nC, sC⟩, Qx⟩ := X
  obtain ⟨hx, hb, hml, hr, hlk, hown, hnm, hts, hK, hF, hL, hRc, hRs, hB⟩ := C
  intro H locs ls kc z h1 h2 h3 h4 h5 h6
  exact lv_lconst hx hb d hv (kk H locs ls kc z h1 h2 h3 h4 h5 h6)
theorem xw_ldc {X : XCtx} {own : String} {cc : ByteArray} {nL : Nat} {nm : String} {ret : Option FieldType} {fr lo : Nat} (C : XOK X own cc nL nm ret fr lo) {pc : Nat} {L : List (Option Value)} {st : List Value} {h : XH} {n sl : Nat} {i : Nat} {v : Int32} (d : decode cc pc = .ok (.ldc i, 2)) (hc : Cond.constant own i v ∈ tblG) (kk : XW X (pc + 2) L (.int v :: st) h n sl) : XW X pc L st h n sl := by
  obtain ⟨⟨p, l, e, R⟩, ⟨s, m, args, below⟩, ⟨meth, c⟩, ⟨D, aT, B⟩, ⟨n0, sl0⟩, ⟨nC, sC⟩, Qx⟩ := X
  obtain ⟨hx, hb, hml, hr, hlk, hown, hnm, hts, hK, hF, hL, hRc, hRs, hB⟩ := C
  intro H locs ls kc z h1 h2 h3 h4 h5 h6
  exact lv_ldc hx hb hown (hts _ hc) d (kk H locs ls kc z h1 h2 h3 h4 h5 h6)
theorem xw_ldcw {X : XCtx} {own : String} {cc : ByteArray} {nL : Nat} {nm : String} {ret : Option FieldType} {fr lo : Nat} (C : XOK X own cc nL nm ret fr lo) {pc : Nat} {L : List (Option Value)} {st : List Value} {h : XH} {n sl : Nat} {i : Nat} {v : Int32} (d : decode cc pc = .ok (.ldc_w i, 3)) (hc : Cond.constant own i v ∈ tblG) (kk : XW X (pc + 3) L (.int v :: st) h n sl) : XW X pc L st h n sl := by
  obtain ⟨⟨p, l, e, R⟩, ⟨s, m, args, below⟩, ⟨meth, c⟩, ⟨D, aT, B⟩, ⟨n0, sl0⟩, ⟨nC, sC⟩, Qx⟩ := X
  obtain ⟨hx, hb, hml, hr, hlk, hown, hnm, hts, hK, hF, hL, hRc, hRs, hB⟩ := C
  intro H locs ls kc z h1 h2 h3 h4 h5 h6
  exact lv_ldcw hx hb hown (hts _ hc) d (kk H locs ls kc z h1 h2 h3 h4 h5 h6)
theorem xw_ldc2 {X : XCtx} {own : String} {cc : ByteArray} {nL : Nat} {nm : String} {ret : Option FieldType} {fr lo : Nat} (C : XOK X own cc nL nm ret fr lo) {pc : Nat} {L : List (Option Value)} {st : List Value} {h : XH} {n sl : Nat} {i : Nat} {v : Int64} (d : decode cc pc = .ok (.ldc2_w i, 3)) (hc : Cond.constantLong own i v ∈ tblG) (kk : XW X (pc + 3) L (.long v :: st) h n sl) : XW X pc L st h n sl := by
  obtain ⟨⟨p, l, e, R⟩, ⟨s, m, args, below⟩, ⟨meth, c⟩, ⟨D, aT, B⟩, ⟨n0, sl0⟩, ⟨nC, sC⟩, Qx⟩ := X
  obtain ⟨hx, hb, hml, hr, hlk, hown, hnm, hts, hK, hF, hL, hRc, hRs, hB⟩ := C
  intro H locs ls kc z h1 h2 h3 h4 h5 h6
  exact lv_ldc2 hx hb hown (hts _ hc) d (kk H locs ls kc z h1 h2 h3 h4 h5 h6)
theorem xw_null {X : XCtx} {own : String} {cc : ByteArray} {nL : Nat} {nm : String} {ret : Option FieldType} {fr lo : Nat} (C : XOK X own cc nL nm ret fr lo) {pc : Nat} {L : List (Option Value)} {st : List Value} {h : XH} {n sl : Nat}  (d : decode cc pc = .ok (.aconst_null, 1))  (kk : XW X (pc + 1) L (.null :: st) h n sl) : XW X pc L st h n sl := by
  obtain ⟨⟨p, l, e, R⟩, ⟨s, m, args, below⟩, ⟨meth, c⟩, ⟨D, aT, B⟩, ⟨n0, sl0⟩, ⟨nC, sC⟩, Qx⟩ := X
  obtain ⟨hx, hb, hml, hr, hlk, hown, hnm, hts, hK, hF, hL, hRc, hRs, hB⟩ := C
  intro H locs ls kc z h1 h2 h3 h4 h5 h6
  exact lv_null hx hb d (kk H locs ls kc z h1 h2 h3 h4 h5 h6)
theorem xw_iload_n {X : XCtx} {own : String} {cc : ByteArray} {nL : Nat} {nm : String} {ret : Option FieldType} {fr lo : Nat} (C : XOK X own cc nL nm ret fr lo) {pc : Nat} {L : List (Option Value)} {st : List Value} {h : XH} {n sl : Nat} {k : Fin 4} {i : Nat} {x : Int32} (d : decode cc pc = .ok (.iload_n k, 1)) (hk : (k : Nat) = i) (hi : L[i]? = some (some (.int x))) (kk : XW X (pc + 1) L (.int x :: st) h n sl) : XW X pc L st h n sl := by
  obtain ⟨⟨p, l, e, R⟩, ⟨s, m, args, below⟩, ⟨meth, c⟩, ⟨D, aT, B⟩, ⟨n0, sl0⟩, ⟨nC, sC⟩, Qx⟩ := X
  obtain ⟨hx, hb, hml, hr, hlk, hown, hnm, hts, hK, hF, hL, hRc, hRs, hB⟩ := C
  intro H locs ls kc z h1 h2 h3 h4 h5 h6
  exact lv_iload_n hx hb d hk (h1.at hi) (kk H locs ls kc z h1 h2 h3 h4 h5 h6)
theorem xw_iload {X : XCtx} {own : String} {cc : ByteArray} {nL : Nat} {nm : String} {ret : Option FieldType} {fr lo : Nat} (C : XOK X own cc nL nm ret fr lo) {pc : Nat} {L : List (Option Value)} {st : List Value} {h : XH} {n sl : Nat} {i : Nat} {x : Int32} (d : decode cc pc = .ok (.iload i, 2)) (hi : L[i]? = some (some (.int x))) (kk : XW X (pc + 2) L (.int x :: st) h n sl) : XW X pc L st h n sl := by
  obtain ⟨⟨p, l, e, R⟩, ⟨s, m, args, below⟩, ⟨meth, c⟩, ⟨D, aT, B⟩, ⟨n0, sl0⟩, ⟨nC, sC⟩, Qx⟩ := X
  obtain ⟨hx, hb, hml, hr, hlk, hown, hnm, hts, hK, hF, hL, hRc, hRs, hB⟩ := C
  intro H locs ls kc z h1 h2 h3 h4 h5 h6
  exact lv_iload hx hb d (h1.at hi) (kk H locs ls kc z h1 h2 h3 h4 h5 h6)
theorem xw_lload_n {X : XCtx} {own : String} {cc : ByteArray} {nL : Nat} {nm : String} {ret : Option FieldType} {fr lo : Nat} (C : XOK X own cc nL nm ret fr lo) {pc : Nat} {L : List (Option Value)} {st : List Value} {h : XH} {n sl : Nat} {k : Fin 4} {i : Nat} {x : Int64} (d : decode cc pc = .ok (.lload_n k, 1)) (hk : (k : Nat) = i) (hi : L[i]? = some (some (.long x))) (kk : XW X (pc + 1) L (.long x :: st) h n sl) : XW X pc L st h n sl := by
  obtain ⟨⟨p, l, e, R⟩, ⟨s, m, args, below⟩, ⟨meth, c⟩, ⟨D, aT, B⟩, ⟨n0, sl0⟩, ⟨nC, sC⟩, Qx⟩ := X
  obtain ⟨hx, hb, hml, hr, hlk, hown, hnm, hts, hK, hF, hL, hRc, hRs, hB⟩ := C
  intro H locs ls kc z h1 h2 h3 h4 h5 h6
  exact lv_lload_n hx hb d hk (h1.at hi) (kk H locs ls kc z h1 h2 h3 h4 h5 h6)
theorem xw_lload {X : XCtx} {own : String} {cc : ByteArray} {nL : Nat} {nm : String} {ret : Option FieldType} {fr lo : Nat} (C : XOK X own cc nL nm ret fr lo) {pc : Nat} {L : List (Option Value)} {st : List Value} {h : XH} {n sl : Nat} {i : Nat} {x : Int64} (d : decode cc pc = .ok (.lload i, 2)) (hi : L[i]? = some (some (.long x))) (kk : XW X (pc + 2) L (.long x :: st) h n sl) : XW X pc L st h n sl := by
  obtain ⟨⟨p, l, e, R⟩, ⟨s, m, args, below⟩, ⟨meth, c⟩, ⟨D, aT, B⟩, ⟨n0, sl0⟩, ⟨nC, sC⟩, Qx⟩ := X
  obtain ⟨hx, hb, hml, hr, hlk, hown, hnm, hts, hK, hF, hL, hRc, hRs, hB⟩ := C
  intro H locs ls kc z h1 h2 h3 h4 h5 h6
  exact lv_lload hx hb d (h1.at hi) (kk H locs ls kc z h1 h2 h3 h4 h5 h6)
theorem xw_aload_n {X : XCtx} {own : String} {cc : ByteArray} {nL : Nat} {nm : String} {ret : Option FieldType} {fr lo : Nat} (C : XOK X own cc nL nm ret fr lo) {pc : Nat} {L : List (Option Value)} {st : List Value} {h : XH} {n sl : Nat} {k : Fin 4} {i x : Nat} (d : decode cc pc = .ok (.aload_n k, 1)) (hk : (k : Nat) = i) (hi : L[i]? = some (some (.ref x))) (kk : XW X (pc + 1) L (.ref x :: st) h n sl) : XW X pc L st h n sl := by
  obtain ⟨⟨p, l, e, R⟩, ⟨s, m, args, below⟩, ⟨meth, c⟩, ⟨D, aT, B⟩, ⟨n0, sl0⟩, ⟨nC, sC⟩, Qx⟩ := X
  obtain ⟨hx, hb, hml, hr, hlk, hown, hnm, hts, hK, hF, hL, hRc, hRs, hB⟩ := C
  intro H locs ls kc z h1 h2 h3 h4 h5 h6
  exact lv_aload_n hx hb d hk (h1.at hi) (kk H locs ls kc z h1 h2 h3 h4 h5 h6)
theorem xw_aload {X : XCtx} {own : String} {cc : ByteArray} {nL : Nat} {nm : String} {ret : Option FieldType} {fr lo : Nat} (C : XOK X own cc nL nm ret fr lo) {pc : Nat} {L : List (Option Value)} {st : List Value} {h : XH} {n sl : Nat} {i x : Nat} (d : decode cc pc = .ok (.aload i, 2)) (hi : L[i]? = some (some (.ref x))) (kk : XW X (pc + 2) L (.ref x :: st) h n sl) : XW X pc L st h n sl := by
  obtain ⟨⟨p, l, e, R⟩, ⟨s, m, args, below⟩, ⟨meth, c⟩, ⟨D, aT, B⟩, ⟨n0, sl0⟩, ⟨nC, sC⟩, Qx⟩ := X
  obtain ⟨hx, hb, hml, hr, hlk, hown, hnm, hts, hK, hF, hL, hRc, hRs, hB⟩ := C
  intro H locs ls kc z h1 h2 h3 h4 h5 h6
  exact lv_aload hx hb d (h1.at hi) (kk H locs ls kc z h1 h2 h3 h4 h5 h6)
theorem xw_aload_nQ {X : XCtx} {own : String} {cc : ByteArray} {nL : Nat} {nm : String} {ret : Option FieldType} {fr lo : Nat} (C : XOK X own cc nL nm ret fr lo) {pc : Nat} {L : List (Option Value)} {st : List Value} {h : XH} {n sl : Nat} {k : Fin 4} {i : Nat} {x : Option Nat} (d : decode cc pc = .ok (.aload_n k, 1)) (hk : (k : Nat) = i) (hi : L[i]? = some (some (va_rf x))) (kk : XW X (pc + 1) L (va_rf x :: st) h n sl) : XW X pc L st h n sl := by
  obtain ⟨⟨p, l, e, R⟩, ⟨s, m, args, below⟩, ⟨meth, c⟩, ⟨D, aT, B⟩, ⟨n0, sl0⟩, ⟨nC, sC⟩, Qx⟩ := X
  obtain ⟨hx, hb, hml, hr, hlk, hown, hnm, hts, hK, hF, hL, hRc, hRs, hB⟩ := C
  intro H locs ls kc z h1 h2 h3 h4 h5 h6
  cases x with
  | none => exact lv_aload_nN hx hb d hk (h1.at hi) (kk H locs ls kc z h1 h2 h3 h4 h5 h6)
  | some x => exact lv_aload_n hx hb d hk (h1.at hi) (kk H locs ls kc z h1 h2 h3 h4 h5 h6)
theorem xw_istore_n {X : XCtx} {own : String} {cc : ByteArray} {nL : Nat} {nm : String} {ret : Option FieldType} {fr lo : Nat} (C : XOK X own cc nL nm ret fr lo) {pc : Nat} {L : List (Option Value)} {st : List Value} {h : XH} {n sl : Nat} {k : Fin 4} {i : Nat} {x : Int32} {L' : List (Option Value)} (d : decode cc pc = .ok (.istore_n k, 1)) (hk : (k : Nat) = i) (hi : i < nL) (hL' : xst L i (.int x) = L') (kk : XW X (pc + 1) L' st h n sl) : XW X pc L ((.int x) :: st) h n sl := by
  obtain ⟨⟨p, l, e, R⟩, ⟨s, m, args, below⟩, ⟨meth, c⟩, ⟨D, aT, B⟩, ⟨n0, sl0⟩, ⟨nC, sC⟩, Qx⟩ := X
  obtain ⟨hx, hb, hml, hr, hlk, hown, hnm, hts, hK, hF, hL, hRc, hRs, hB⟩ := C
  intro H locs ls kc z h1 h2 h3 h4 h5 h6
  subst hL'
  refine lv_istore_n hx hb d hk h1 (by rw [hml]; exact hi) rfl (fun ls' hl' => ?_)
  exact kk H locs ls' kc z (XL.st1 hl') h2 h3 h4 h5 h6
theorem xw_istore {X : XCtx} {own : String} {cc : ByteArray} {nL : Nat} {nm : String} {ret : Option FieldType} {fr lo : Nat} (C : XOK X own cc nL nm ret fr lo) {pc : Nat} {L : List (Option Value)} {st : List Value} {h : XH} {n sl : Nat} {i : Nat} {x : Int32} {L' : List (Option Value)} (d : decode cc pc = .ok (.istore i, 2)) (hi : i < nL) (hL' : xst L i (.int x) = L') (kk : XW X (pc + 2) L' st h n sl) : XW X pc L ((.int x) :: st) h n sl := by
  obtain ⟨⟨p, l, e, R⟩, ⟨s, m, args, below⟩, ⟨meth, c⟩, ⟨D, aT, B⟩, ⟨n0, sl0⟩, ⟨nC, sC⟩, Qx⟩ := X
  obtain ⟨hx, hb, hml, hr, hlk, hown, hnm, hts, hK, hF, hL, hRc, hRs, hB⟩ := C
  intro H locs ls kc z h1 h2 h3 h4 h5 h6
  subst hL'
  refine lv_istore hx hb d h1 (by rw [hml]; exact hi) rfl (fun ls' hl' => ?_)
  exact kk H locs ls' kc z (XL.st1 hl') h2 h3 h4 h5 h6
theorem xw_lstore_n {X : XCtx} {own : String} {cc : ByteArray} {nL : Nat} {nm : String} {ret : Option FieldType} {fr lo : Nat} (C : XOK X own cc nL nm ret fr lo) {pc : Nat} {L : List (Option Value)} {st : List Value} {h : XH} {n sl : Nat} {k : Fin 4} {i : Nat} {x : Int64} {L' : List (Option Value)} (d : decode cc pc = .ok (.lstore_n k, 1)) (hk : (k : Nat) = i) (hi : i + 1 < nL) (hL' : xst2 L i (.long x) = L') (kk : XW X (pc + 1) L' st h n sl) : XW X pc L ((.long x) :: st) h n sl := by
  obtain ⟨⟨p, l, e, R⟩, ⟨s, m, args, below⟩, ⟨meth, c⟩, ⟨D, aT, B⟩, ⟨n0, sl0⟩, ⟨nC, sC⟩, Qx⟩ := X
  obtain ⟨hx, hb, hml, hr, hlk, hown, hnm, hts, hK, hF, hL, hRc, hRs, hB⟩ := C
  intro H locs ls kc z h1 h2 h3 h4 h5 h6
  subst hL'
  refine lv_lstore_n hx hb d hk h1 (by rw [hml]; exact hi) rfl (fun ls' hl' => ?_)
  exact kk H locs ls' kc z (XL.st2 hl') h2 h3 h4 h5 h6
theorem xw_lstore {X : XCtx} {own : String} {cc : ByteArray} {nL : Nat} {nm : String} {ret : Option FieldType} {fr lo : Nat} (C : XOK X own cc nL nm ret fr lo) {pc : Nat} {L : List (Option Value)} {st : List Value} {h : XH} {n sl : Nat} {i : Nat} {x : Int64} {L' : List (Option Value)} (d : decode cc pc = .ok (.lstore i, 2)) (hi : i + 1 < nL) (hL' : xst2 L i (.long x) = L') (kk : XW X (pc + 2) L' st h n sl) : XW X pc L ((.long x) :: st) h n sl := by
  obtain ⟨⟨p, l, e, R⟩, ⟨s, m, args, below⟩, ⟨meth, c⟩, ⟨D, aT, B⟩, ⟨n0, sl0⟩, ⟨nC, sC⟩, Qx⟩ := X
  obtain ⟨hx, hb, hml, hr, hlk, hown, hnm, hts, hK, hF, hL, hRc, hRs, hB⟩ := C
  intro H locs ls kc z h1 h2 h3 h4 h5 h6
  subst hL'
  refine lv_lstore hx hb d h1 (by rw [hml]; exact hi) rfl (fun ls' hl' => ?_)
  exact kk H locs ls' kc z (XL.st2 hl') h2 h3 h4 h5 h6
theorem xw_astore_n {X : XCtx} {own : String} {cc : ByteArray} {nL : Nat} {nm : String} {ret : Option FieldType} {fr lo : Nat} (C : XOK X own cc nL nm ret fr lo) {pc : Nat} {L : List (Option Value)} {st : List Value} {h : XH} {n sl : Nat} {k : Fin 4} {i : Nat} {x : Nat} {L' : List (Option Value)} (d : decode cc pc = .ok (.astore_n k, 1)) (hk : (k : Nat) = i) (hi : i < nL) (hL' : xst L i (.ref x) = L') (kk : XW X (pc + 1) L' st h n sl) : XW X pc L ((.ref x) :: st) h n sl := by
  obtain ⟨⟨p, l, e, R⟩, ⟨s, m, args, below⟩, ⟨meth, c⟩, ⟨D, aT, B⟩, ⟨n0, sl0⟩, ⟨nC, sC⟩, Qx⟩ := X
  obtain ⟨hx, hb, hml, hr, hlk, hown, hnm, hts, hK, hF, hL, hRc, hRs, hB⟩ := C
  intro H locs ls kc z h1 h2 h3 h4 h5 h6
  subst hL'
  refine lv_astore_n hx hb d hk h1 (by rw [hml]; exact hi) rfl (fun ls' hl' => ?_)
  exact kk H locs ls' kc z (XL.st1 hl') h2 h3 h4 h5 h6
theorem xw_astore {X : XCtx} {own : String} {cc : ByteArray} {nL : Nat} {nm : String} {ret : Option FieldType} {fr lo : Nat} (C : XOK X own cc nL nm ret fr lo) {pc : Nat} {L : List (Option Value)} {st : List Value} {h : XH} {n sl : Nat} {i : Nat} {x : Nat} {L' : List (Option Value)} (d : decode cc pc = .ok (.astore i, 2)) (hi : i < nL) (hL' : xst L i (.ref x) = L') (kk : XW X (pc + 2) L' st h n sl) : XW X pc L ((.ref x) :: st) h n sl := by
  obtain ⟨⟨p, l, e, R⟩, ⟨s, m, args, below⟩, ⟨meth, c⟩, ⟨D, aT, B⟩, ⟨n0, sl0⟩, ⟨nC, sC⟩, Qx⟩ := X
  obtain ⟨hx, hb, hml, hr, hlk, hown, hnm, hts, hK, hF, hL, hRc, hRs, hB⟩ := C
  intro H locs ls kc z h1 h2 h3 h4 h5 h6
  subst hL'
  refine lv_astore hx hb d h1 (by rw [hml]; exact hi) rfl (fun ls' hl' => ?_)
  exact kk H locs ls' kc z (XL.st1 hl') h2 h3 h4 h5 h6
theorem xw_astore_nQ {X : XCtx} {own : String} {cc : ByteArray} {nL : Nat} {nm : String} {ret : Option FieldType} {fr lo : Nat} (C : XOK X own cc nL nm ret fr lo) {pc : Nat} {L : List (Option Value)} {st : List Value} {h : XH} {n sl : Nat} {k : Fin 4} {i : Nat} {x : Option Nat} {L' : List (Option Value)} (d : decode cc pc = .ok (.astore_n k, 1)) (hk : (k : Nat) = i) (hi : i < nL) (hL' : xst L i (va_rf x) = L') (kk : XW X (pc + 1) L' st h n sl) : XW X pc L (va_rf x :: st) h n sl := by
  obtain ⟨⟨p, l, e, R⟩, ⟨s, m, args, below⟩, ⟨meth, c⟩, ⟨D, aT, B⟩, ⟨n0, sl0⟩, ⟨nC, sC⟩, Qx⟩ := X
  obtain ⟨hx, hb, hml, hr, hlk, hown, hnm, hts, hK, hF, hL, hRc, hRs, hB⟩ := C
  intro H locs ls kc z h1 h2 h3 h4 h5 h6
  subst hL'
  cases x with
  | none =>
    refine lv_astore_nN hx hb d hk h1 (by rw [hml]; exact hi) rfl (fun ls' hl' => ?_)
    exact kk H locs ls' kc z (XL.st1 (v := .null) hl') h2 h3 h4 h5 h6
  | some x =>
    refine lv_astore_n hx hb d hk h1 (by rw [hml]; exact hi) rfl (fun ls' hl' => ?_)
    exact kk H locs ls' kc z (XL.st1 (v := .ref x) hl') h2 h3 h4 h5 h6
theorem xw_iinc {X : XCtx} {own : String} {cc : ByteArray} {nL : Nat} {nm : String} {ret : Option FieldType} {fr lo : Nat} (C : XOK X own cc nL nm ret fr lo) {pc : Nat} {L : List (Option Value)} {st : List Value} {h : XH} {n sl : Nat} {i : Nat} {j : Int} {x v : Int32} {L' : List (Option Value)} (d : decode cc pc = .ok (.iinc i j, 3)) (hx0 : L[i]? = some (some (.int x))) (hv : x + Int32.ofInt j = v) (hi : i < nL) (hL' : xst L i (.int v) = L') (kk : XW X (pc + 3) L' st h n sl) : XW X pc L st h n sl := by
  obtain ⟨⟨p, l, e, R⟩, ⟨s, m, args, below⟩, ⟨meth, c⟩, ⟨D, aT, B⟩, ⟨n0, sl0⟩, ⟨nC, sC⟩, Qx⟩ := X
  obtain ⟨hx, hb, hml, hr, hlk, hown, hnm, hts, hK, hF, hL, hRc, hRs, hB⟩ := C
  intro H locs ls kc z h1 h2 h3 h4 h5 h6
  subst hL'
  obtain ⟨k, hk⟩ := List.getElem?_of_mem ((xls_mem B L 0 i (.int x)).mpr ⟨i, .int x, hx0, by omega, rfl⟩)
  refine lv_iinc (k := k) (v := v) hx hb d h1 hk hv (by rw [hml]; exact hi) rfl (fun ls' hl' => ?_)
  exact kk H locs ls' kc z (XL.st1 (v := .int v) hl') h2 h3 h4 h5 h6
theorem xw_iadd {X : XCtx} {own : String} {cc : ByteArray} {nL : Nat} {nm : String} {ret : Option FieldType} {fr lo : Nat} (C : XOK X own cc nL nm ret fr lo) {pc : Nat} {L : List (Option Value)} {st : List Value} {h : XH} {n sl : Nat} {x y : Int32} (d : decode cc pc = .ok (.iadd, 1))  (kk : XW X (pc + 1) L (.int (x + y) :: st) h n sl) : XW X pc L (.int y :: .int x :: st) h n sl := by
  obtain ⟨⟨p, l, e, R⟩, ⟨s, m, args, below⟩, ⟨meth, c⟩, ⟨D, aT, B⟩, ⟨n0, sl0⟩, ⟨nC, sC⟩, Qx⟩ := X
  obtain ⟨hx, hb, hml, hr, hlk, hown, hnm, hts, hK, hF, hL, hRc, hRs, hB⟩ := C
  intro H locs ls kc z h1 h2 h3 h4 h5 h6
  exact lv_iadd hx hb d  (kk H locs ls kc z h1 h2 h3 h4 h5 h6)
theorem xw_isub {X : XCtx} {own : String} {cc : ByteArray} {nL : Nat} {nm : String} {ret : Option FieldType} {fr lo : Nat} (C : XOK X own cc nL nm ret fr lo) {pc : Nat} {L : List (Option Value)} {st : List Value} {h : XH} {n sl : Nat} {x y : Int32} (d : decode cc pc = .ok (.isub, 1))  (kk : XW X (pc + 1) L (.int (x - y) :: st) h n sl) : XW X pc L (.int y :: .int x :: st) h n sl := by
  obtain ⟨⟨p, l, e, R⟩, ⟨s, m, args, below⟩, ⟨meth, c⟩, ⟨D, aT, B⟩, ⟨n0, sl0⟩, ⟨nC, sC⟩, Qx⟩ := X
  obtain ⟨hx, hb, hml, hr, hlk, hown, hnm, hts, hK, hF, hL, hRc, hRs, hB⟩ := C
  intro H locs ls kc z h1 h2 h3 h4 h5 h6
  exact lv_isub hx hb d  (kk H locs ls kc z h1 h2 h3 h4 h5 h6)
theorem xw_imul {X : XCtx} {own : String} {cc : ByteArray} {nL : Nat} {nm : String} {ret : Option FieldType} {fr lo : Nat} (C : XOK X own cc nL nm ret fr lo) {pc : Nat} {L : List (Option Value)} {st : List Value} {h : XH} {n sl : Nat} {x y : Int32} (d : decode cc pc = .ok (.imul, 1))  (kk : XW X (pc + 1) L (.int (x * y) :: st) h n sl) : XW X pc L (.int y :: .int x :: st) h n sl := by
  obtain ⟨⟨p, l, e, R⟩, ⟨s, m, args, below⟩, ⟨meth, c⟩, ⟨D, aT, B⟩, ⟨n0, sl0⟩, ⟨nC, sC⟩, Qx⟩ := X
  obtain ⟨hx, hb, hml, hr, hlk, hown, hnm, hts, hK, hF, hL, hRc, hRs, hB⟩ := C
  intro H locs ls kc z h1 h2 h3 h4 h5 h6
  exact lv_imul hx hb d  (kk H locs ls kc z h1 h2 h3 h4 h5 h6)
theorem xw_iand {X : XCtx} {own : String} {cc : ByteArray} {nL : Nat} {nm : String} {ret : Option FieldType} {fr lo : Nat} (C : XOK X own cc nL nm ret fr lo) {pc : Nat} {L : List (Option Value)} {st : List Value} {h : XH} {n sl : Nat} {x y : Int32} (d : decode cc pc = .ok (.iand, 1))  (kk : XW X (pc + 1) L (.int (x &&& y) :: st) h n sl) : XW X pc L (.int y :: .int x :: st) h n sl := by
  obtain ⟨⟨p, l, e, R⟩, ⟨s, m, args, below⟩, ⟨meth, c⟩, ⟨D, aT, B⟩, ⟨n0, sl0⟩, ⟨nC, sC⟩, Qx⟩ := X
  obtain ⟨hx, hb, hml, hr, hlk, hown, hnm, hts, hK, hF, hL, hRc, hRs, hB⟩ := C
  intro H locs ls kc z h1 h2 h3 h4 h5 h6
  exact lv_iand hx hb d  (kk H locs ls kc z h1 h2 h3 h4 h5 h6)
theorem xw_ior {X : XCtx} {own : String} {cc : ByteArray} {nL : Nat} {nm : String} {ret : Option FieldType} {fr lo : Nat} (C : XOK X own cc nL nm ret fr lo) {pc : Nat} {L : List (Option Value)} {st : List Value} {h : XH} {n sl : Nat} {x y : Int32} (d : decode cc pc = .ok (.ior, 1))  (kk : XW X (pc + 1) L (.int (x ||| y) :: st) h n sl) : XW X pc L (.int y :: .int x :: st) h n sl := by
  obtain ⟨⟨p, l, e, R⟩, ⟨s, m, args, below⟩, ⟨meth, c⟩, ⟨D, aT, B⟩, ⟨n0, sl0⟩, ⟨nC, sC⟩, Qx⟩ := X
  obtain ⟨hx, hb, hml, hr, hlk, hown, hnm, hts, hK, hF, hL, hRc, hRs, hB⟩ := C
  intro H locs ls kc z h1 h2 h3 h4 h5 h6
  exact lv_ior hx hb d  (kk H locs ls kc z h1 h2 h3 h4 h5 h6)
theorem xw_ixor {X : XCtx} {own : String} {cc : ByteArray} {nL : Nat} {nm : String} {ret : Option FieldType} {fr lo : Nat} (C : XOK X own cc nL nm ret fr lo) {pc : Nat} {L : List (Option Value)} {st : List Value} {h : XH} {n sl : Nat} {x y : Int32} (d : decode cc pc = .ok (.ixor, 1))  (kk : XW X (pc + 1) L (.int (x ^^^ y) :: st) h n sl) : XW X pc L (.int y :: .int x :: st) h n sl := by
  obtain ⟨⟨p, l, e, R⟩, ⟨s, m, args, below⟩, ⟨meth, c⟩, ⟨D, aT, B⟩, ⟨n0, sl0⟩, ⟨nC, sC⟩, Qx⟩ := X
  obtain ⟨hx, hb, hml, hr, hlk, hown, hnm, hts, hK, hF, hL, hRc, hRs, hB⟩ := C
  intro H locs ls kc z h1 h2 h3 h4 h5 h6
  exact lv_ixor hx hb d  (kk H locs ls kc z h1 h2 h3 h4 h5 h6)
theorem xw_ishl {X : XCtx} {own : String} {cc : ByteArray} {nL : Nat} {nm : String} {ret : Option FieldType} {fr lo : Nat} (C : XOK X own cc nL nm ret fr lo) {pc : Nat} {L : List (Option Value)} {st : List Value} {h : XH} {n sl : Nat} {x y : Int32} (d : decode cc pc = .ok (.ishl, 1))  (kk : XW X (pc + 1) L (.int (x <<< (y &&& 31)) :: st) h n sl) : XW X pc L (.int y :: .int x :: st) h n sl := by
  obtain ⟨⟨p, l, e, R⟩, ⟨s, m, args, below⟩, ⟨meth, c⟩, ⟨D, aT, B⟩, ⟨n0, sl0⟩, ⟨nC, sC⟩, Qx⟩ := X
  obtain ⟨hx, hb, hml, hr, hlk, hown, hnm, hts, hK, hF, hL, hRc, hRs, hB⟩ := C
  intro H locs ls kc z h1 h2 h3 h4 h5 h6
  exact lv_ishl hx hb d  (kk H locs ls kc z h1 h2 h3 h4 h5 h6)
theorem xw_ishr {X : XCtx} {own : String} {cc : ByteArray} {nL : Nat} {nm : String} {ret : Option FieldType} {fr lo : Nat} (C : XOK X own cc nL nm ret fr lo) {pc : Nat} {L : List (Option Value)} {st : List Value} {h : XH} {n sl : Nat} {x y : Int32} (d : decode cc pc = .ok (.ishr, 1))  (kk : XW X (pc + 1) L (.int (x >>> (y &&& 31)) :: st) h n sl) : XW X pc L (.int y :: .int x :: st) h n sl := by
  obtain ⟨⟨p, l, e, R⟩, ⟨s, m, args, below⟩, ⟨meth, c⟩, ⟨D, aT, B⟩, ⟨n0, sl0⟩, ⟨nC, sC⟩, Qx⟩ := X
  obtain ⟨hx, hb, hml, hr, hlk, hown, hnm, hts, hK, hF, hL, hRc, hRs, hB⟩ := C
  intro H locs ls kc z h1 h2 h3 h4 h5 h6
  exact lv_ishr hx hb d  (kk H locs ls kc z h1 h2 h3 h4 h5 h6)
def xrem (x y : Int32) : Int32 := x - x / y * y
def xushr (x y : Int32) : Int32 := (x.toUInt32 >>> (y.toUInt32 &&& Int32.toUInt32 31)).toInt32
def xlushr (x : Int64) (y : Int32) : Int64 := (x.toUInt64 >>> (y.toInt64.toUInt64 &&& Int64.toUInt64 63)).toInt64
def xlshl (x : Int64) (y : Int32) : Int64 := x <<< (y.toInt64 &&& 63)
theorem xw_idiv {X : XCtx} {own : String} {cc : ByteArray} {nL : Nat} {nm : String} {ret : Option FieldType} {fr lo : Nat} (C : XOK X own cc nL nm ret fr lo) {pc : Nat} {L : List (Option Value)} {st : List Value} {h : XH} {n sl : Nat} {x y : Int32} (d : decode cc pc = .ok (.idiv, 1)) (hne : ¬ y = 0) (kk : XW X (pc + 1) L (.int (x / y) :: st) h n sl) : XW X pc L (.int y :: .int x :: st) h n sl := by
  obtain ⟨⟨p, l, e, R⟩, ⟨s, m, args, below⟩, ⟨meth, c⟩, ⟨D, aT, B⟩, ⟨n0, sl0⟩, ⟨nC, sC⟩, Qx⟩ := X
  obtain ⟨hx, hb, hml, hr, hlk, hown, hnm, hts, hK, hF, hL, hRc, hRs, hB⟩ := C
  intro H locs ls kc z h1 h2 h3 h4 h5 h6
  exact lv_idiv hx hb d hne (kk H locs ls kc z h1 h2 h3 h4 h5 h6)
theorem xw_irem {X : XCtx} {own : String} {cc : ByteArray} {nL : Nat} {nm : String} {ret : Option FieldType} {fr lo : Nat} (C : XOK X own cc nL nm ret fr lo) {pc : Nat} {L : List (Option Value)} {st : List Value} {h : XH} {n sl : Nat} {x y : Int32} (d : decode cc pc = .ok (.irem, 1)) (hne : ¬ y = 0) (kk : XW X (pc + 1) L (.int (xrem x y) :: st) h n sl) : XW X pc L (.int y :: .int x :: st) h n sl := by
  obtain ⟨⟨p, l, e, R⟩, ⟨s, m, args, below⟩, ⟨meth, c⟩, ⟨D, aT, B⟩, ⟨n0, sl0⟩, ⟨nC, sC⟩, Qx⟩ := X
  obtain ⟨hx, hb, hml, hr, hlk, hown, hnm, hts, hK, hF, hL, hRc, hRs, hB⟩ := C
  intro H locs ls kc z h1 h2 h3 h4 h5 h6
  exact lv_irem hx hb d hne (kk H locs ls kc z h1 h2 h3 h4 h5 h6)
theorem xw_ineg {X : XCtx} {own : String} {cc : ByteArray} {nL : Nat} {nm : String} {ret : Option FieldType} {fr lo : Nat} (C : XOK X own cc nL nm ret fr lo) {pc : Nat} {L : List (Option Value)} {st : List Value} {h : XH} {n sl : Nat} {x : Int32} (d : decode cc pc = .ok (.ineg, 1))  (kk : XW X (pc + 1) L (.int (-x) :: st) h n sl) : XW X pc L (.int x :: st) h n sl := by
  obtain ⟨⟨p, l, e, R⟩, ⟨s, m, args, below⟩, ⟨meth, c⟩, ⟨D, aT, B⟩, ⟨n0, sl0⟩, ⟨nC, sC⟩, Qx⟩ := X
  obtain ⟨hx, hb, hml, hr, hlk, hown, hnm, hts, hK, hF, hL, hRc, hRs, hB⟩ := C
  intro H locs ls kc z h1 h2 h3 h4 h5 h6
  exact lv_ineg hx hb d  (kk H locs ls kc z h1 h2 h3 h4 h5 h6)
theorem xw_ladd {X : XCtx} {own : String} {cc : ByteArray} {nL : Nat} {nm : String} {ret : Option FieldType} {fr lo : Nat} (C : XOK X own cc nL nm ret fr lo) {pc : Nat} {L : List (Option Value)} {st : List Value} {h : XH} {n sl : Nat} {x y : Int64} (d : decode cc pc = .ok (.ladd, 1))  (kk : XW X (pc + 1) L (.long (x + y) :: st) h n sl) : XW X pc L (.long y :: .long x :: st) h n sl := by
  obtain ⟨⟨p, l, e, R⟩, ⟨s, m, args, below⟩, ⟨meth, c⟩, ⟨D, aT, B⟩, ⟨n0, sl0⟩, ⟨nC, sC⟩, Qx⟩ := X
  obtain ⟨hx, hb, hml, hr, hlk, hown, hnm, hts, hK, hF, hL, hRc, hRs, hB⟩ := C
  intro H locs ls kc z h1 h2 h3 h4 h5 h6
  exact lv_ladd hx hb d  (kk H locs ls kc z h1 h2 h3 h4 h5 h6)
theorem xw_lsub {X : XCtx} {own : String} {cc : ByteArray} {nL : Nat} {nm : String} {ret : Option FieldType} {fr lo : Nat} (C : XOK X own cc nL nm ret fr lo) {pc : Nat} {L : List (Option Value)} {st : List Value} {h : XH} {n sl : Nat} {x y : Int64} (d : decode cc pc = .ok (.lsub, 1))  (kk : XW X (pc + 1) L (.long (x - y) :: st) h n sl) : XW X pc L (.long y :: .long x :: st) h n sl := by
  obtain ⟨⟨p, l, e, R⟩, ⟨s, m, args, below⟩, ⟨meth, c⟩, ⟨D, aT, B⟩, ⟨n0, sl0⟩, ⟨nC, sC⟩, Qx⟩ := X
  obtain ⟨hx, hb, hml, hr, hlk, hown, hnm, hts, hK, hF, hL, hRc, hRs, hB⟩ := C
  intro H locs ls kc z h1 h2 h3 h4 h5 h6
  exact lv_lsub hx hb d  (kk H locs ls kc z h1 h2 h3 h4 h5 h6)
theorem xw_lmul {X : XCtx} {own : String} {cc : ByteArray} {nL : Nat} {nm : String} {ret : Option FieldType} {fr lo : Nat} (C : XOK X own cc nL nm ret fr lo) {pc : Nat} {L : List (Option Value)} {st : List Value} {h : XH} {n sl : Nat} {x y : Int64} (d : decode cc pc = .ok (.lmul, 1))  (kk : XW X (pc + 1) L (.long (x * y) :: st) h n sl) : XW X pc L (.long y :: .long x :: st) h n sl := by
  obtain ⟨⟨p, l, e, R⟩, ⟨s, m, args, below⟩, ⟨meth, c⟩, ⟨D, aT, B⟩, ⟨n0, sl0⟩, ⟨nC, sC⟩, Qx⟩ := X
  obtain ⟨hx, hb, hml, hr, hlk, hown, hnm, hts, hK, hF, hL, hRc, hRs, hB⟩ := C
  intro H locs ls kc z h1 h2 h3 h4 h5 h6
  exact lv_lmul hx hb d  (kk H locs ls kc z h1 h2 h3 h4 h5 h6)
theorem xw_land {X : XCtx} {own : String} {cc : ByteArray} {nL : Nat} {nm : String} {ret : Option FieldType} {fr lo : Nat} (C : XOK X own cc nL nm ret fr lo) {pc : Nat} {L : List (Option Value)} {st : List Value} {h : XH} {n sl : Nat} {x y : Int64} (d : decode cc pc = .ok (.land, 1))  (kk : XW X (pc + 1) L (.long (x &&& y) :: st) h n sl) : XW X pc L (.long y :: .long x :: st) h n sl := by
  obtain ⟨⟨p, l, e, R⟩, ⟨s, m, args, below⟩, ⟨meth, c⟩, ⟨D, aT, B⟩, ⟨n0, sl0⟩, ⟨nC, sC⟩, Qx⟩ := X
  obtain ⟨hx, hb, hml, hr, hlk, hown, hnm, hts, hK, hF, hL, hRc, hRs, hB⟩ := C
  intro H locs ls kc z h1 h2 h3 h4 h5 h6
  exact lv_land hx hb d  (kk H locs ls kc z h1 h2 h3 h4 h5 h6)
theorem xw_lor {X : XCtx} {own : String} {cc : ByteArray} {nL : Nat} {nm : String} {ret : Option FieldType} {fr lo : Nat} (C : XOK X own cc nL nm ret fr lo) {pc : Nat} {L : List (Option Value)} {st : List Value} {h : XH} {n sl : Nat} {x y : Int64} (d : decode cc pc = .ok (.lor, 1))  (kk : XW X (pc + 1) L (.long (x ||| y) :: st) h n sl) : XW X pc L (.long y :: .long x :: st) h n sl := by
  obtain ⟨⟨p, l, e, R⟩, ⟨s, m, args, below⟩, ⟨meth, c⟩, ⟨D, aT, B⟩, ⟨n0, sl0⟩, ⟨nC, sC⟩, Qx⟩ := X
  obtain ⟨hx, hb, hml, hr, hlk, hown, hnm, hts, hK, hF, hL, hRc, hRs, hB⟩ := C
  intro H locs ls kc z h1 h2 h3 h4 h5 h6
  exact lv_lor hx hb d  (kk H locs ls kc z h1 h2 h3 h4 h5 h6)
theorem xw_i2l {X : XCtx} {own : String} {cc : ByteArray} {nL : Nat} {nm : String} {ret : Option FieldType} {fr lo : Nat} (C : XOK X own cc nL nm ret fr lo) {pc : Nat} {L : List (Option Value)} {st : List Value} {h : XH} {n sl : Nat} {x : Int32} (d : decode cc pc = .ok (.i2l, 1))  (kk : XW X (pc + 1) L (.long x.toInt64 :: st) h n sl) : XW X pc L (.int x :: st) h n sl := by
  obtain ⟨⟨p, l, e, R⟩, ⟨s, m, args, below⟩, ⟨meth, c⟩, ⟨D, aT, B⟩, ⟨n0, sl0⟩, ⟨nC, sC⟩, Qx⟩ := X
  obtain ⟨hx, hb, hml, hr, hlk, hown, hnm, hts, hK, hF, hL, hRc, hRs, hB⟩ := C
  intro H locs ls kc z h1 h2 h3 h4 h5 h6
  exact lv_i2l hx hb d rfl (kk H locs ls kc z h1 h2 h3 h4 h5 h6)
theorem xw_l2i {X : XCtx} {own : String} {cc : ByteArray} {nL : Nat} {nm : String} {ret : Option FieldType} {fr lo : Nat} (C : XOK X own cc nL nm ret fr lo) {pc : Nat} {L : List (Option Value)} {st : List Value} {h : XH} {n sl : Nat} {x : Int64} (d : decode cc pc = .ok (.l2i, 1))  (kk : XW X (pc + 1) L (.int x.toInt32 :: st) h n sl) : XW X pc L (.long x :: st) h n sl := by
  obtain ⟨⟨p, l, e, R⟩, ⟨s, m, args, below⟩, ⟨meth, c⟩, ⟨D, aT, B⟩, ⟨n0, sl0⟩, ⟨nC, sC⟩, Qx⟩ := X
  obtain ⟨hx, hb, hml, hr, hlk, hown, hnm, hts, hK, hF, hL, hRc, hRs, hB⟩ := C
  intro H locs ls kc z h1 h2 h3 h4 h5 h6
  exact lv_l2i hx hb d rfl (kk H locs ls kc z h1 h2 h3 h4 h5 h6)
theorem xw_iushr {X : XCtx} {own : String} {cc : ByteArray} {nL : Nat} {nm : String} {ret : Option FieldType} {fr lo : Nat} (C : XOK X own cc nL nm ret fr lo) {pc : Nat} {L : List (Option Value)} {st : List Value} {h : XH} {n sl : Nat} {x y : Int32} (d : decode cc pc = .ok (.iushr, 1))  (kk : XW X (pc + 1) L (.int (xushr x y) :: st) h n sl) : XW X pc L (.int y :: .int x :: st) h n sl := by
  obtain ⟨⟨p, l, e, R⟩, ⟨s, m, args, below⟩, ⟨meth, c⟩, ⟨D, aT, B⟩, ⟨n0, sl0⟩, ⟨nC, sC⟩, Qx⟩ := X
  obtain ⟨hx, hb, hml, hr, hlk, hown, hnm, hts, hK, hF, hL, hRc, hRs, hB⟩ := C
  intro H locs ls kc z h1 h2 h3 h4 h5 h6
  exact lv_iushr hx hb d rfl (kk H locs ls kc z h1 h2 h3 h4 h5 h6)
theorem xw_lushr {X : XCtx} {own : String} {cc : ByteArray} {nL : Nat} {nm : String} {ret : Option FieldType} {fr lo : Nat} (C : XOK X own cc nL nm ret fr lo) {pc : Nat} {L : List (Option Value)} {st : List Value} {h : XH} {n sl : Nat} {x : Int64} {y : Int32} (d : decode cc pc = .ok (.lushr, 1))  (kk : XW X (pc + 1) L (.long (xlushr x y) :: st) h n sl) : XW X pc L (.int y :: .long x :: st) h n sl := by
  obtain ⟨⟨p, l, e, R⟩, ⟨s, m, args, below⟩, ⟨meth, c⟩, ⟨D, aT, B⟩, ⟨n0, sl0⟩, ⟨nC, sC⟩, Qx⟩ := X
  obtain ⟨hx, hb, hml, hr, hlk, hown, hnm, hts, hK, hF, hL, hRc, hRs, hB⟩ := C
  intro H locs ls kc z h1 h2 h3 h4 h5 h6
  exact lv_lushr hx hb d rfl (kk H locs ls kc z h1 h2 h3 h4 h5 h6)
theorem xw_lshl {X : XCtx} {own : String} {cc : ByteArray} {nL : Nat} {nm : String} {ret : Option FieldType} {fr lo : Nat} (C : XOK X own cc nL nm ret fr lo) {pc : Nat} {L : List (Option Value)} {st : List Value} {h : XH} {n sl : Nat} {x : Int64} {y : Int32} (d : decode cc pc = .ok (.lshl, 1))  (kk : XW X (pc + 1) L (.long (xlshl x y) :: st) h n sl) : XW X pc L (.int y :: .long x :: st) h n sl := by
  obtain ⟨⟨p, l, e, R⟩, ⟨s, m, args, below⟩, ⟨meth, c⟩, ⟨D, aT, B⟩, ⟨n0, sl0⟩, ⟨nC, sC⟩, Qx⟩ := X
  obtain ⟨hx, hb, hml, hr, hlk, hown, hnm, hts, hK, hF, hL, hRc, hRs, hB⟩ := C
  intro H locs ls kc z h1 h2 h3 h4 h5 h6
  exact lv_lshl hx hb d rfl (kk H locs ls kc z h1 h2 h3 h4 h5 h6)
theorem xw_lcmp {X : XCtx} {own : String} {cc : ByteArray} {nL : Nat} {nm : String} {ret : Option FieldType} {fr lo : Nat} (C : XOK X own cc nL nm ret fr lo) {pc : Nat} {L : List (Option Value)} {st : List Value} {h : XH} {n sl : Nat} {x y : Int64} (d : decode cc pc = .ok (.lcmp, 1))  (kk : XW X (pc + 1) L (.int (lg_cmp x y) :: st) h n sl) : XW X pc L (.long y :: .long x :: st) h n sl := by
  obtain ⟨⟨p, l, e, R⟩, ⟨s, m, args, below⟩, ⟨meth, c⟩, ⟨D, aT, B⟩, ⟨n0, sl0⟩, ⟨nC, sC⟩, Qx⟩ := X
  obtain ⟨hx, hb, hml, hr, hlk, hown, hnm, hts, hK, hF, hL, hRc, hRs, hB⟩ := C
  intro H locs ls kc z h1 h2 h3 h4 h5 h6
  exact W.lcmp hx hb d (kk H locs ls kc z h1 h2 h3 h4 h5 h6)
theorem xw_dup {X : XCtx} {own : String} {cc : ByteArray} {nL : Nat} {nm : String} {ret : Option FieldType} {fr lo : Nat} (C : XOK X own cc nL nm ret fr lo) {pc : Nat} {L : List (Option Value)} {st : List Value} {h : XH} {n sl : Nat} {v : Value} (d : decode cc pc = .ok (.dup, 1)) (hc : v.category = 1) (kk : XW X (pc + 1) L (v :: v :: st) h n sl) : XW X pc L (v :: st) h n sl := by
  obtain ⟨⟨p, l, e, R⟩, ⟨s, m, args, below⟩, ⟨meth, c⟩, ⟨D, aT, B⟩, ⟨n0, sl0⟩, ⟨nC, sC⟩, Qx⟩ := X
  obtain ⟨hx, hb, hml, hr, hlk, hown, hnm, hts, hK, hF, hL, hRc, hRs, hB⟩ := C
  intro H locs ls kc z h1 h2 h3 h4 h5 h6
  exact lv_dup hx hb d (by rw [xv_cat]; exact hc) (kk H locs ls kc z h1 h2 h3 h4 h5 h6)
theorem xw_dup2 {X : XCtx} {own : String} {cc : ByteArray} {nL : Nat} {nm : String} {ret : Option FieldType} {fr lo : Nat} (C : XOK X own cc nL nm ret fr lo) {pc : Nat} {L : List (Option Value)} {st : List Value} {h : XH} {n sl : Nat} {v w : Value} (d : decode cc pc = .ok (.dup2, 1)) (hc : v.category = 1) (hw : w.category = 1) (kk : XW X (pc + 1) L (v :: w :: v :: w :: st) h n sl) : XW X pc L (v :: w :: st) h n sl := by
  obtain ⟨⟨p, l, e, R⟩, ⟨s, m, args, below⟩, ⟨meth, c⟩, ⟨D, aT, B⟩, ⟨n0, sl0⟩, ⟨nC, sC⟩, Qx⟩ := X
  obtain ⟨hx, hb, hml, hr, hlk, hown, hnm, hts, hK, hF, hL, hRc, hRs, hB⟩ := C
  intro H locs ls kc z h1 h2 h3 h4 h5 h6
  exact lv_dup2_11 hx hb d (by rw [xv_cat]; exact hc) (by rw [xv_cat]; exact hw) (kk H locs ls kc z h1 h2 h3 h4 h5 h6)
theorem xw_pop {X : XCtx} {own : String} {cc : ByteArray} {nL : Nat} {nm : String} {ret : Option FieldType} {fr lo : Nat} (C : XOK X own cc nL nm ret fr lo) {pc : Nat} {L : List (Option Value)} {st : List Value} {h : XH} {n sl : Nat} {v : Value} (d : decode cc pc = .ok (.pop, 1)) (hc : v.category = 1) (kk : XW X (pc + 1) L st h n sl) : XW X pc L (v :: st) h n sl := by
  obtain ⟨⟨p, l, e, R⟩, ⟨s, m, args, below⟩, ⟨meth, c⟩, ⟨D, aT, B⟩, ⟨n0, sl0⟩, ⟨nC, sC⟩, Qx⟩ := X
  obtain ⟨hx, hb, hml, hr, hlk, hown, hnm, hts, hK, hF, hL, hRc, hRs, hB⟩ := C
  intro H locs ls kc z h1 h2 h3 h4 h5 h6
  exact lv_pop hx hb d (by rw [xv_cat]; exact hc) (kk H locs ls kc z h1 h2 h3 h4 h5 h6)
theorem xw_if_eq {X : XCtx} {own : String} {cc : ByteArray} {nL : Nat} {nm : String} {ret : Option FieldType} {fr lo : Nat} (C : XOK X own cc nL nm ret fr lo) {pc : Nat} {L : List (Option Value)} {st : List Value} {h : XH} {n sl : Nat} {x : Int32} {off : Int} {tgt : Nat} (d : decode cc pc = .ok (.ifCond .eq off, 3)) (ht : (pc : Int) + off = (tgt : Int)) (kt : x = 0 → XW X tgt L st h n sl) (kf : ¬ x = 0 → XW X (pc + 3) L st h n sl) : XW X pc L (.int x :: st) h n sl := by
  obtain ⟨⟨p, l, e, R⟩, ⟨s, m, args, below⟩, ⟨meth, c⟩, ⟨D, aT, B⟩, ⟨n0, sl0⟩, ⟨nC, sC⟩, Qx⟩ := X
  obtain ⟨hx, hb, hml, hr, hlk, hown, hnm, hts, hK, hF, hL, hRc, hRs, hB⟩ := C
  intro H locs ls kc z h1 h2 h3 h4 h5 h6
  exact lv_if_eq hx hb d ht (fun q => kt q H locs ls kc z h1 h2 h3 h4 h5 h6) (fun q => kf q H locs ls kc z h1 h2 h3 h4 h5 h6)
theorem xw_icmp_eq {X : XCtx} {own : String} {cc : ByteArray} {nL : Nat} {nm : String} {ret : Option FieldType} {fr lo : Nat} (C : XOK X own cc nL nm ret fr lo) {pc : Nat} {L : List (Option Value)} {st : List Value} {h : XH} {n sl : Nat} {x y : Int32} {off : Int} {tgt : Nat} (d : decode cc pc = .ok (.if_icmp .eq off, 3)) (ht : (pc : Int) + off = (tgt : Int)) (kt : x = y → XW X tgt L st h n sl) (kf : ¬ x = y → XW X (pc + 3) L st h n sl) : XW X pc L (.int y :: .int x :: st) h n sl := by
  obtain ⟨⟨p, l, e, R⟩, ⟨s, m, args, below⟩, ⟨meth, c⟩, ⟨D, aT, B⟩, ⟨n0, sl0⟩, ⟨nC, sC⟩, Qx⟩ := X
  obtain ⟨hx, hb, hml, hr, hlk, hown, hnm, hts, hK, hF, hL, hRc, hRs, hB⟩ := C
  intro H locs ls kc z h1 h2 h3 h4 h5 h6
  exact lv_icmp_eq hx hb d ht (fun q => kt q H locs ls kc z h1 h2 h3 h4 h5 h6) (fun q => kf q H locs ls kc z h1 h2 h3 h4 h5 h6)
theorem xw_if_ne {X : XCtx} {own : String} {cc : ByteArray} {nL : Nat} {nm : String} {ret : Option FieldType} {fr lo : Nat} (C : XOK X own cc nL nm ret fr lo) {pc : Nat} {L : List (Option Value)} {st : List Value} {h : XH} {n sl : Nat} {x : Int32} {off : Int} {tgt : Nat} (d : decode cc pc = .ok (.ifCond .ne off, 3)) (ht : (pc : Int) + off = (tgt : Int)) (kt : ¬ x = 0 → XW X tgt L st h n sl) (kf : x = 0 → XW X (pc + 3) L st h n sl) : XW X pc L (.int x :: st) h n sl := by
  obtain ⟨⟨p, l, e, R⟩, ⟨s, m, args, below⟩, ⟨meth, c⟩, ⟨D, aT, B⟩, ⟨n0, sl0⟩, ⟨nC, sC⟩, Qx⟩ := X
  obtain ⟨hx, hb, hml, hr, hlk, hown, hnm, hts, hK, hF, hL, hRc, hRs, hB⟩ := C
  intro H locs ls kc z h1 h2 h3 h4 h5 h6
  exact lv_if_ne hx hb d ht (fun q => kt q H locs ls kc z h1 h2 h3 h4 h5 h6) (fun q => kf q H locs ls kc z h1 h2 h3 h4 h5 h6)
theorem xw_icmp_ne {X : XCtx} {own : String} {cc : ByteArray} {nL : Nat} {nm : String} {ret : Option FieldType} {fr lo : Nat} (C : XOK X own cc nL nm ret fr lo) {pc : Nat} {L : List (Option Value)} {st : List Value} {h : XH} {n sl : Nat} {x y : Int32} {off : Int} {tgt : Nat} (d : decode cc pc = .ok (.if_icmp .ne off, 3)) (ht : (pc : Int) + off = (tgt : Int)) (kt : ¬ x = y → XW X tgt L st h n sl) (kf : x = y → XW X (pc + 3) L st h n sl) : XW X pc L (.int y :: .int x :: st) h n sl := by
  obtain ⟨⟨p, l, e, R⟩, ⟨s, m, args, below⟩, ⟨meth, c⟩, ⟨D, aT, B⟩, ⟨n0, sl0⟩, ⟨nC, sC⟩, Qx⟩ := X
  obtain ⟨hx, hb, hml, hr, hlk, hown, hnm, hts, hK, hF, hL, hRc, hRs, hB⟩ := C
  intro H locs ls kc z h1 h2 h3 h4 h5 h6
  exact lv_icmp_ne hx hb d ht (fun q => kt q H locs ls kc z h1 h2 h3 h4 h5 h6) (fun q => kf q H locs ls kc z h1 h2 h3 h4 h5 h6)
theorem xw_if_lt {X : XCtx} {own : String} {cc : ByteArray} {nL : Nat} {nm : String} {ret : Option FieldType} {fr lo : Nat} (C : XOK X own cc nL nm ret fr lo) {pc : Nat} {L : List (Option Value)} {st : List Value} {h : XH} {n sl : Nat} {x : Int32} {off : Int} {tgt : Nat} (d : decode cc pc = .ok (.ifCond .lt off, 3)) (ht : (pc : Int) + off = (tgt : Int)) (kt : x < 0 → XW X tgt L st h n sl) (kf : ¬ x < 0 → XW X (pc + 3) L st h n sl) : XW X pc L (.int x :: st) h n sl := by
  obtain ⟨⟨p, l, e, R⟩, ⟨s, m, args, below⟩, ⟨meth, c⟩, ⟨D, aT, B⟩, ⟨n0, sl0⟩, ⟨nC, sC⟩, Qx⟩ := X
  obtain ⟨hx, hb, hml, hr, hlk, hown, hnm, hts, hK, hF, hL, hRc, hRs, hB⟩ := C
  intro H locs ls kc z h1 h2 h3 h4 h5 h6
  exact lv_if_lt hx hb d ht (fun q => kt q H locs ls kc z h1 h2 h3 h4 h5 h6) (fun q => kf q H locs ls kc z h1 h2 h3 h4 h5 h6)
theorem xw_icmp_lt {X : XCtx} {own : String} {cc : ByteArray} {nL : Nat} {nm : String} {ret : Option FieldType} {fr lo : Nat} (C : XOK X own cc nL nm ret fr lo) {pc : Nat} {L : List (Option Value)} {st : List Value} {h : XH} {n sl : Nat} {x y : Int32} {off : Int} {tgt : Nat} (d : decode cc pc = .ok (.if_icmp .lt off, 3)) (ht : (pc : Int) + off = (tgt : Int)) (kt : x < y → XW X tgt L st h n sl) (kf : ¬ x < y → XW X (pc + 3) L st h n sl) : XW X pc L (.int y :: .int x :: st) h n sl := by
  obtain ⟨⟨p, l, e, R⟩, ⟨s, m, args, below⟩, ⟨meth, c⟩, ⟨D, aT, B⟩, ⟨n0, sl0⟩, ⟨nC, sC⟩, Qx⟩ := X
  obtain ⟨hx, hb, hml, hr, hlk, hown, hnm, hts, hK, hF, hL, hRc, hRs, hB⟩ := C
  intro H locs ls kc z h1 h2 h3 h4 h5 h6
  exact lv_icmp_lt hx hb d ht (fun q => kt q H locs ls kc z h1 h2 h3 h4 h5 h6) (fun q => kf q H locs ls kc z h1 h2 h3 h4 h5 h6)
theorem xw_if_ge {X : XCtx} {own : String} {cc : ByteArray} {nL : Nat} {nm : String} {ret : Option FieldType} {fr lo : Nat} (C : XOK X own cc nL nm ret fr lo) {pc : Nat} {L : List (Option Value)} {st : List Value} {h : XH} {n sl : Nat} {x : Int32} {off : Int} {tgt : Nat} (d : decode cc pc = .ok (.ifCond .ge off, 3)) (ht : (pc : Int) + off = (tgt : Int)) (kt : 0 ≤ x → XW X tgt L st h n sl) (kf : ¬ 0 ≤ x → XW X (pc + 3) L st h n sl) : XW X pc L (.int x :: st) h n sl := by
  obtain ⟨⟨p, l, e, R⟩, ⟨s, m, args, below⟩, ⟨meth, c⟩, ⟨D, aT, B⟩, ⟨n0, sl0⟩, ⟨nC, sC⟩, Qx⟩ := X
  obtain ⟨hx, hb, hml, hr, hlk, hown, hnm, hts, hK, hF, hL, hRc, hRs, hB⟩ := C
  intro H locs ls kc z h1 h2 h3 h4 h5 h6
  exact lv_if_ge hx hb d ht (fun q => kt q H locs ls kc z h1 h2 h3 h4 h5 h6) (fun q => kf q H locs ls kc z h1 h2 h3 h4 h5 h6)
theorem xw_icmp_ge {X : XCtx} {own : String} {cc : ByteArray} {nL : Nat} {nm : String} {ret : Option FieldType} {fr lo : Nat} (C : XOK X own cc nL nm ret fr lo) {pc : Nat} {L : List (Option Value)} {st : List Value} {h : XH} {n sl : Nat} {x y : Int32} {off : Int} {tgt : Nat} (d : decode cc pc = .ok (.if_icmp .ge off, 3)) (ht : (pc : Int) + off = (tgt : Int)) (kt : y ≤ x → XW X tgt L st h n sl) (kf : ¬ y ≤ x → XW X (pc + 3) L st h n sl) : XW X pc L (.int y :: .int x :: st) h n sl := by
  obtain ⟨⟨p, l, e, R⟩, ⟨s, m, args, below⟩, ⟨meth, c⟩, ⟨D, aT, B⟩, ⟨n0, sl0⟩, ⟨nC, sC⟩, Qx⟩ := X
  obtain ⟨hx, hb, hml, hr, hlk, hown, hnm, hts, hK, hF, hL, hRc, hRs, hB⟩ := C
  intro H locs ls kc z h1 h2 h3 h4 h5 h6
  exact lv_icmp_ge hx hb d ht (fun q => kt q H locs ls kc z h1 h2 h3 h4 h5 h6) (fun q => kf q H locs ls kc z h1 h2 h3 h4 h5 h6)
theorem xw_if_gt {X : XCtx} {own : String} {cc : ByteArray} {nL : Nat} {nm : String} {ret : Option FieldType} {fr lo : Nat} (C : XOK X own cc nL nm ret fr lo) {pc : Nat} {L : List (Option Value)} {st : List Value} {h : XH} {n sl : Nat} {x : Int32} {off : Int} {tgt : Nat} (d : decode cc pc = .ok (.ifCond .gt off, 3)) (ht : (pc : Int) + off = (tgt : Int)) (kt : 0 < x → XW X tgt L st h n sl) (kf : ¬ 0 < x → XW X (pc + 3) L st h n sl) : XW X pc L (.int x :: st) h n sl := by
  obtain ⟨⟨p, l, e, R⟩, ⟨s, m, args, below⟩, ⟨meth, c⟩, ⟨D, aT, B⟩, ⟨n0, sl0⟩, ⟨nC, sC⟩, Qx⟩ := X
  obtain ⟨hx, hb, hml, hr, hlk, hown, hnm, hts, hK, hF, hL, hRc, hRs, hB⟩ := C
  intro H locs ls kc z h1 h2 h3 h4 h5 h6
  exact lv_if_gt hx hb d ht (fun q => kt q H locs ls kc z h1 h2 h3 h4 h5 h6) (fun q => kf q H locs ls kc z h1 h2 h3 h4 h5 h6)
theorem xw_icmp_gt {X : XCtx} {own : String} {cc : ByteArray} {nL : Nat} {nm : String} {ret : Option FieldType} {fr lo : Nat} (C : XOK X own cc nL nm ret fr lo) {pc : Nat} {L : List (Option Value)} {st : List Value} {h : XH} {n sl : Nat} {x y : Int32} {off : Int} {tgt : Nat} (d : decode cc pc = .ok (.if_icmp .gt off, 3)) (ht : (pc : Int) + off = (tgt : Int)) (kt : y < x → XW X tgt L st h n sl) (kf : ¬ y < x → XW X (pc + 3) L st h n sl) : XW X pc L (.int y :: .int x :: st) h n sl := by
  obtain ⟨⟨p, l, e, R⟩, ⟨s, m, args, below⟩, ⟨meth, c⟩, ⟨D, aT, B⟩, ⟨n0, sl0⟩, ⟨nC, sC⟩, Qx⟩ := X
  obtain ⟨hx, hb, hml, hr, hlk, hown, hnm, hts, hK, hF, hL, hRc, hRs, hB⟩ := C
  intro H locs ls kc z h1 h2 h3 h4 h5 h6
  exact lv_icmp_gt hx hb d ht (fun q => kt q H locs ls kc z h1 h2 h3 h4 h5 h6) (fun q => kf q H locs ls kc z h1 h2 h3 h4 h5 h6)
theorem xw_if_le {X : XCtx} {own : String} {cc : ByteArray} {nL : Nat} {nm : String} {ret : Option FieldType} {fr lo : Nat} (C : XOK X own cc nL nm ret fr lo) {pc : Nat} {L : List (Option Value)} {st : List Value} {h : XH} {n sl : Nat} {x : Int32} {off : Int} {tgt : Nat} (d : decode cc pc = .ok (.ifCond .le off, 3)) (ht : (pc : Int) + off = (tgt : Int)) (kt : x ≤ 0 → XW X tgt L st h n sl) (kf : ¬ x ≤ 0 → XW X (pc + 3) L st h n sl) : XW X pc L (.int x :: st) h n sl := by
  obtain ⟨⟨p, l, e, R⟩, ⟨s, m, args, below⟩, ⟨meth, c⟩, ⟨D, aT, B⟩, ⟨n0, sl0⟩, ⟨nC, sC⟩, Qx⟩ := X
  obtain ⟨hx, hb, hml, hr, hlk, hown, hnm, hts, hK, hF, hL, hRc, hRs, hB⟩ := C
  intro H locs ls kc z h1 h2 h3 h4 h5 h6
  exact lv_if_le hx hb d ht (fun q => kt q H locs ls kc z h1 h2 h3 h4 h5 h6) (fun q => kf q H locs ls kc z h1 h2 h3 h4 h5 h6)
theorem xw_icmp_le {X : XCtx} {own : String} {cc : ByteArray} {nL : Nat} {nm : String} {ret : Option FieldType} {fr lo : Nat} (C : XOK X own cc nL nm ret fr lo) {pc : Nat} {L : List (Option Value)} {st : List Value} {h : XH} {n sl : Nat} {x y : Int32} {off : Int} {tgt : Nat} (d : decode cc pc = .ok (.if_icmp .le off, 3)) (ht : (pc : Int) + off = (tgt : Int)) (kt : x ≤ y → XW X tgt L st h n sl) (kf : ¬ x ≤ y → XW X (pc + 3) L st h n sl) : XW X pc L (.int y :: .int x :: st) h n sl := by
  obtain ⟨⟨p, l, e, R⟩, ⟨s, m, args, below⟩, ⟨meth, c⟩, ⟨D, aT, B⟩, ⟨n0, sl0⟩, ⟨nC, sC⟩, Qx⟩ := X
  obtain ⟨hx, hb, hml, hr, hlk, hown, hnm, hts, hK, hF, hL, hRc, hRs, hB⟩ := C
  intro H locs ls kc z h1 h2 h3 h4 h5 h6
  exact lv_icmp_le hx hb d ht (fun q => kt q H locs ls kc z h1 h2 h3 h4 h5 h6) (fun q => kf q H locs ls kc z h1 h2 h3 h4 h5 h6)
theorem xw_goto {X : XCtx} {own : String} {cc : ByteArray} {nL : Nat} {nm : String} {ret : Option FieldType} {fr lo : Nat} (C : XOK X own cc nL nm ret fr lo) {pc : Nat} {L : List (Option Value)} {st : List Value} {h : XH} {n sl : Nat} {off : Int} {tgt : Nat} (d : decode cc pc = .ok (.goto off, 3)) (ht : (pc : Int) + off = (tgt : Int)) (kk : XW X tgt L st h n sl) : XW X pc L st h n sl := by
  obtain ⟨⟨p, l, e, R⟩, ⟨s, m, args, below⟩, ⟨meth, c⟩, ⟨D, aT, B⟩, ⟨n0, sl0⟩, ⟨nC, sC⟩, Qx⟩ := X
  obtain ⟨hx, hb, hml, hr, hlk, hown, hnm, hts, hK, hF, hL, hRc, hRs, hB⟩ := C
  intro H locs ls kc z h1 h2 h3 h4 h5 h6
  exact lv_goto hx hb d ht (kk H locs ls kc z h1 h2 h3 h4 h5 h6)
theorem xw_ifnull {X : XCtx} {own : String} {cc : ByteArray} {nL : Nat} {nm : String} {ret : Option FieldType} {fr lo : Nat} (C : XOK X own cc nL nm ret fr lo) {pc : Nat} {L : List (Option Value)} {st : List Value} {h : XH} {n sl : Nat} {x : Option Nat} {off : Int} {tgt : Nat} (d : decode cc pc = .ok (.ifnull off, 3)) (ht : (pc : Int) + off = (tgt : Int)) (kt : x = none → XW X tgt L st h n sl) (kf : ∀ a, x = some a → XW X (pc + 3) L st h n sl) : XW X pc L (va_rf x :: st) h n sl := by
  obtain ⟨⟨p, l, e, R⟩, ⟨s, m, args, below⟩, ⟨meth, c⟩, ⟨D, aT, B⟩, ⟨n0, sl0⟩, ⟨nC, sC⟩, Qx⟩ := X
  obtain ⟨hx, hb, hml, hr, hlk, hown, hnm, hts, hK, hF, hL, hRc, hRs, hB⟩ := C
  intro H locs ls kc z h1 h2 h3 h4 h5 h6
  cases x with
  | none => exact lv_ifnullN hx hb d ht (kt rfl H locs ls kc z h1 h2 h3 h4 h5 h6)
  | some a => exact lv_ifnull hx hb d (kf a rfl H locs ls kc z h1 h2 h3 h4 h5 h6)
theorem xw_ifnonnull {X : XCtx} {own : String} {cc : ByteArray} {nL : Nat} {nm : String} {ret : Option FieldType} {fr lo : Nat} (C : XOK X own cc nL nm ret fr lo) {pc : Nat} {L : List (Option Value)} {st : List Value} {h : XH} {n sl : Nat} {x : Option Nat} {off : Int} {tgt : Nat} (d : decode cc pc = .ok (.ifnonnull off, 3)) (ht : (pc : Int) + off = (tgt : Int)) (kt : ∀ a, x = some a → XW X tgt L st h n sl) (kf : x = none → XW X (pc + 3) L st h n sl) : XW X pc L (va_rf x :: st) h n sl := by
  obtain ⟨⟨p, l, e, R⟩, ⟨s, m, args, below⟩, ⟨meth, c⟩, ⟨D, aT, B⟩, ⟨n0, sl0⟩, ⟨nC, sC⟩, Qx⟩ := X
  obtain ⟨hx, hb, hml, hr, hlk, hown, hnm, hts, hK, hF, hL, hRc, hRs, hB⟩ := C
  intro H locs ls kc z h1 h2 h3 h4 h5 h6
  cases x with
  | none => exact lv_ifnonnullN hx hb d (kf rfl H locs ls kc z h1 h2 h3 h4 h5 h6)
  | some a => exact lv_ifnonnull hx hb d ht (kt a rfl H locs ls kc z h1 h2 h3 h4 h5 h6)
theorem xw_tabIn {X : XCtx} {own : String} {cc : ByteArray} {nL : Nat} {nm : String} {ret : Option FieldType} {fr lo : Nat} (C : XOK X own cc nL nm ret fr lo) {pc : Nat} {L : List (Option Value)} {st : List Value} {h : XH} {n sl : Nat} {dflt lo' hi' : Int} {offs : Array Int} {len : Nat} {x v : Int32} {off : Int} {tgt : Nat} (d : decode cc pc = .ok (.tableswitch dflt lo' hi' offs, len)) (hv : x = v) (q1 : ¬ v.toInt < lo') (q2 : ¬ hi' < v.toInt) (ho : offs[(v.toInt - lo').toNat]? = some off) (ht : (pc : Int) + off = (tgt : Int)) (kk : XW X tgt L st h n sl) : XW X pc L (.int x :: st) h n sl := by
  obtain ⟨⟨p, l, e, R⟩, ⟨s, m, args, below⟩, ⟨meth, c⟩, ⟨D, aT, B⟩, ⟨n0, sl0⟩, ⟨nC, sC⟩, Qx⟩ := X
  obtain ⟨hx, hb, hml, hr, hlk, hown, hnm, hts, hK, hF, hL, hRc, hRs, hB⟩ := C
  intro H locs ls kc z h1 h2 h3 h4 h5 h6
  subst hv
  exact lv_tableIn hx hb d q1 q2 ho ht (kk H locs ls kc z h1 h2 h3 h4 h5 h6)
theorem xw_tabOut {X : XCtx} {own : String} {cc : ByteArray} {nL : Nat} {nm : String} {ret : Option FieldType} {fr lo : Nat} (C : XOK X own cc nL nm ret fr lo) {pc : Nat} {L : List (Option Value)} {st : List Value} {h : XH} {n sl : Nat} {dflt lo' hi' : Int} {offs : Array Int} {len : Nat} {x : Int32} {tgt : Nat} (d : decode cc pc = .ok (.tableswitch dflt lo' hi' offs, len)) (q : x.toInt < lo' ∨ hi' < x.toInt) (ht : (pc : Int) + dflt = (tgt : Int)) (kk : XW X tgt L st h n sl) : XW X pc L (.int x :: st) h n sl := by
  obtain ⟨⟨p, l, e, R⟩, ⟨s, m, args, below⟩, ⟨meth, c⟩, ⟨D, aT, B⟩, ⟨n0, sl0⟩, ⟨nC, sC⟩, Qx⟩ := X
  obtain ⟨hx, hb, hml, hr, hlk, hown, hnm, hts, hK, hF, hL, hRc, hRs, hB⟩ := C
  intro H locs ls kc z h1 h2 h3 h4 h5 h6
  exact lv_tableOut hx hb d q ht (kk H locs ls kc z h1 h2 h3 h4 h5 h6)
theorem xw_look {X : XCtx} {own : String} {cc : ByteArray} {nL : Nat} {nm : String} {ret : Option FieldType} {fr lo : Nat} (C : XOK X own cc nL nm ret fr lo) {pc : Nat} {L : List (Option Value)} {st : List Value} {h : XH} {n sl : Nat} {dflt : Int} {ps : Array (Int × Int)} {len : Nat} {x : Int32} {off : Int} {tgt : Nat} (d : decode cc pc = .ok (.lookupswitch dflt ps, len)) (hp : (ps.toList.zip (ps.toList.drop 1)).all (fun (a, next) => a.1 < next.1) = true) (ho : Op.lookupswitch.offset ps.toList dflt x.toInt = off) (ht : (pc : Int) + off = (tgt : Int)) (kk : XW X tgt L st h n sl) : XW X pc L (.int x :: st) h n sl := by
  obtain ⟨⟨p, l, e, R⟩, ⟨s, m, args, below⟩, ⟨meth, c⟩, ⟨D, aT, B⟩, ⟨n0, sl0⟩, ⟨nC, sC⟩, Qx⟩ := X
  obtain ⟨hx, hb, hml, hr, hlk, hown, hnm, hts, hK, hF, hL, hRc, hRs, hB⟩ := C
  intro H locs ls kc z h1 h2 h3 h4 h5 h6
  exact lv_lookup hx hb d hp ho ht (kk H locs ls kc z h1 h2 h3 h4 h5 h6)
theorem xw_sub {X : XCtx} {pc : Nat} {L : List (Option Value)} (L' : List (Option Value)) {st : List Value} {h : XH} {n sl : Nat} (hs : xsub L' L) (kk : XW X pc L' st h n sl) : XW X pc L st h n sl := by
  obtain ⟨⟨p, l, e, R⟩, ⟨s, m, args, below⟩, ⟨meth, c⟩, ⟨D, aT, B⟩, ⟨n0, sl0⟩, ⟨nC, sC⟩, Qx⟩ := X
  intro H locs ls kc z h1 h2 h3 h4 h5 h6
  exact kk H locs ls kc z (h1.sub (xsub_at L' L hs)) h2 h3 h4 h5 h6
