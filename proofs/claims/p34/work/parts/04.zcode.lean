set_option maxRecDepth 100000 in
theorem tcode_112 : tables_1[541]? = some (Cond.code yL_shapes cL_shapes 21 (some .boolean)) := rfl
