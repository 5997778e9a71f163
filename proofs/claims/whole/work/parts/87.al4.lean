theorem al_atK {f : Nat → va_E} {l : List (Nat × va_E)} {K : List Nat} (hn : K.Nodup) {k a : Nat} {x : va_E} (hk : l[k]? = some (a, x)) (he : l.map Prod.fst = K) : al_F f l a = x := al_at (by rw [he]; exact hn) hk
section HG
variable {s : State} {H : Heap} {locs : List Loc} {D : va_G} {b0 : Nat} {L K : List Nat} {f : Nat → va_E} {a : Nat} {li : List (Nat × va_E)}
theorem al_chgK (hn : K.Nodup) {k : Nat} {x y : va_E} (w : hg_W D b0 L (va_up (al_F f li) a y) s.heap H locs) (hk : li[k]? = some (a, x)) (he : li.map Prod.fst = K) : hg_W D b0 L (al_F f (li.set k (a, y))) s.heap H locs := al_chg (by rw [he]; exact hn) hk w
end HG
