/-! THE LAW and KINDS: how a size is told -/
noncomputable def tb (G : Int → Int) (k v : Int) : Int := if k = 1 then v else if k = 2 then v / 2 else if k = 3 then G (G v) else G v
