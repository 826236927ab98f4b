theorem jMt_ok_6 : ((((jMt.drop 120).take 20).zip ((jMp.drop 120).take 20)).all (fun q => jRok q.1 q.2)) = true := by decide +kernel
